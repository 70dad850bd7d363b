/** Promises 15 and 16: a palette's colours, and their order. */
public final class FilterRowsPaletteTest {
  private static final int LEAST = Integer.MIN_VALUE;
  private static final int MOST = Integer.MAX_VALUE;

  public static void main(String[] args) {
    coloursAreNumbered();
    colourRefuses();
    paletteEndsAt64();
    orderStartsWithTheLeastSum();
    orderGoesToTheNearest();
    equalOnesGoByNumber();
    orderFollowsNewColours();
    orderRefuses();
    Check.end();
  }

  private static FilterRows palette(int... colours) {
    FilterRows x = new FilterRows(1, 1, 0, 1);
    for (int i = 0; i < colours.length; i++) {
      Check.same("number of a colour", x.colour(colours[i]), i);
    }
    return x;
  }

  private static void orderIs(FilterRows x, int... due) {
    Check.same("colours", x.told(7), due.length);
    for (int place = 0; place < due.length; place++) {
      Check.same("order(" + place + ")", x.order(place), due[place]);
    }
  }

  private static void coloursAreNumbered() {
    orderIs(palette(0xFFFFFF, 0), 1, 0);
    orderIs(palette(0), 0);
  }

  private static void colourRefuses() {
    FilterRows x = palette(7, 3);
    for (int bad : new int[] {-1, 0x1000000, LEAST, MOST}) {
      Check.refused("colour " + bad, IllegalArgumentException.class, () -> x.colour(bad));
    }
    orderIs(x, 1, 0);
    Check.same("the next colour", x.colour(5), 2);
  }

  private static void paletteEndsAt64() {
    FilterRows x = new FilterRows(1, 1, 0, 1);
    for (int i = 0; i < 64; i++) {
      Check.same("number", x.colour(255 - i), i);
    }
    Check.refused("a 65th", UnsupportedOperationException.class, () -> x.colour(0));
    Check.refused("no colour there", IllegalArgumentException.class, () -> x.colour(-1));
    Check.same("colours there", x.told(7), 64);
    for (int place = 0; place < 64; place++) {
      Check.same("order of 64 at " + place, x.order(place), 63 - place);
    }
  }

  private static void orderStartsWithTheLeastSum() {
    // by squares the first would be nearest to black; from the third, the second is the nearer
    orderIs(palette(0x0A0A0A, 0x0B0A0A, 0x1C0000), 2, 1, 0);
    orderIs(palette(0x000100, 0x0000FF, 0x010101), 0, 2, 1);
    orderIs(palette(0x000100, 0x000000), 1, 0);
    orderIs(palette(0x000001, 0x000000), 1, 0);
    orderIs(palette(0x010000, 0x000000), 1, 0);
  }

  private static void orderGoesToTheNearest() {
    // from 0: 0x000014 is 400 away, 0x0C0C0C 432, 0x0F0F00 450
    orderIs(palette(0x0F0F00, 0x0C0C0C, 0x000014, 0), 3, 2, 1, 0);
    // each colour is asked from the last one, not from the first
    orderIs(palette(0x000000, 0x0A0000, 0x001100, 0x150000), 0, 1, 3, 2);
    // red, green and blue each count
    orderIs(palette(0, 0x030000, 0x000200, 0x000001), 0, 3, 2, 1);
    orderIs(palette(0x0A0000, 0x140000, 0x0B0000), 0, 2, 1);
    orderIs(palette(0x000500, 0x000401, 0x000600), 0, 2, 1);
    orderIs(palette(0x000005, 0x000104, 0x000006), 0, 2, 1);
    orderIs(palette(0, 0xFFFFFF), 0, 1);
    orderIs(palette(0, 0xFFFFFF, 0x8080FF, 0xFF8080, 0x80FF80), 0, 2, 1, 3, 4);
  }

  private static void equalOnesGoByNumber() {
    orderIs(palette(5, 5, 5), 0, 1, 2);
    orderIs(palette(0x000100, 0x010000, 0x000001), 0, 1, 2);
    orderIs(palette(0x080505, 0x050805, 0x050505), 2, 0, 1);
    orderIs(palette(0x0A0000, 0x000A00, 0, 0x0A0000, 0), 2, 4, 0, 3, 1);
  }

  private static void orderFollowsNewColours() {
    FilterRows x = palette(100, 50);
    orderIs(x, 1, 0);
    Check.same("a nearer colour", x.colour(70), 2);
    orderIs(x, 1, 2, 0);
    Check.same("a darker colour", x.colour(10), 3);
    Check.same("the last place first", x.order(3), 0);
    orderIs(x, 3, 1, 2, 0);
    FilterRows y = palette(0);
    orderIs(y, 0);
    Check.same("a colour behind the one placed", y.colour(5), 1);
    orderIs(y, 0, 1);
  }

  private static void orderRefuses() {
    FilterRows none = new FilterRows(1, 1, 0, 1);
    Check.refused("order of nothing", IndexOutOfBoundsException.class, () -> none.order(0));
    FilterRows x = palette(1, 2);
    for (int bad : new int[] {-1, 2, 64, LEAST, MOST}) {
      Check.refused("order " + bad, IndexOutOfBoundsException.class, () -> x.order(bad));
    }
    orderIs(x, 0, 1);
  }
}
