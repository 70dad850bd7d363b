/** Promises 1 to 5, 14, 17 and 18: the picture, its passes, alpha, what is told, and clearing. */
public final class FilterRowsPictureTest {
  private static final int LEAST = Integer.MIN_VALUE;
  private static final int MOST = Integer.MAX_VALUE;

  public static void main(String[] args) {
    sizesCountAsTheNearest();
    bitsAreToldByNumbers();
    newSamplesAreZero();
    putAnswersTheSampleBefore();
    putRefuses();
    paintGoesThroughChannelsPlacesRows();
    paintRunsOver();
    atRefuses();
    passesOfTheLargestPicture();
    passesOfSmallPictures();
    passRefuses();
    cleanWipesWhatIsHidden();
    cleanNeedsAlpha();
    toldTells();
    clearForgets();
    Check.end();
  }

  private static void size(FilterRows x, int width, int height, int bits, int channels, int step) {
    Check.same("width", x.told(0), width);
    Check.same("height", x.told(1), height);
    Check.same("bits", x.told(2), bits);
    Check.same("channels", x.told(3), channels);
    Check.same("step", x.told(4), step);
  }

  private static void sizesCountAsTheNearest() {
    size(new FilterRows(0, 0, -1, 0), 1, 1, 1, 1, 1);
    size(new FilterRows(LEAST, LEAST, LEAST, LEAST), 1, 1, 1, 1, 1);
    size(new FilterRows(17, 17, 5, 5), 16, 16, 16, 4, 8);
    size(new FilterRows(MOST, MOST, MOST, MOST), 16, 16, 16, 4, 8);
    size(new FilterRows(16, 1, 3, 3), 16, 1, 8, 3, 3);
    size(new FilterRows(1, 16, 4, 3), 1, 16, 16, 3, 6);
    size(new FilterRows(15, 2, 4, 1), 15, 2, 16, 1, 2);
  }

  private static void bitsAreToldByNumbers() {
    for (int told = 0; told <= 4; told++) {
      int bits = new int[] {1, 2, 4, 8, 16}[told];
      Check.same("bits of one channel for " + told, new FilterRows(2, 2, told, 1).told(2), bits);
      Check.same("bits of two channels for " + told, new FilterRows(2, 2, told, 2).told(2),
          Math.max(8, bits));
    }
  }

  private static void newSamplesAreZero() {
    FilterRows x = new FilterRows(3, 4, 3, 2);
    for (int i = 0; i < 24; i++) {
      Check.same("new sample " + i, x.at(i / 2 % 3, i / 6, i % 2), 0);
    }
    for (int what = 5; what <= 7; what++) {
      Check.same("told(" + what + ") of a new object", x.told(what), 0);
    }
  }

  private static void putAnswersTheSampleBefore() {
    for (int told = 0; told <= 4; told++) {
      FilterRows x = new FilterRows(3, 2, told, 1);
      int most = (1 << x.told(2)) - 1;
      Check.same("put on a new sample", x.put(2, 1, 0, most), 0);
      Check.same("put on the most", x.put(2, 1, 0, 1), most);
      Check.same("put on 1", x.put(2, 1, 0, 0), 1);
      x.put(1, 0, 0, most);
      Check.same("the sample put", x.at(1, 0, 0), most);
      Check.same("its neighbour before", x.at(0, 0, 0), 0);
      Check.same("its neighbour behind", x.at(2, 0, 0), 0);
      Check.same("its neighbour below", x.at(1, 1, 0), 0);
    }
    FilterRows x = new FilterRows(2, 2, 3, 4);
    x.put(1, 1, 2, 77);
    Check.same("channel before", x.at(1, 1, 1), 0);
    Check.same("channel", x.at(1, 1, 2), 77);
    Check.same("channel behind", x.at(1, 1, 3), 0);
  }

  private static void putRefuses() {
    Class<IndexOutOfBoundsException> index = IndexOutOfBoundsException.class;
    FilterRows x = new FilterRows(3, 2, 2, 1);
    x.paint(9, 0);
    for (int bad : new int[] {-1, 3, LEAST, MOST}) {
      Check.refused("put x " + bad, index, () -> x.put(bad, 0, 0, 1));
      Check.refused("put y " + bad, index, () -> x.put(0, bad == 3 ? 2 : bad, 0, 1));
      Check.refused("put channel " + bad, index, () -> x.put(0, 0, bad == 3 ? 1 : bad, 1));
      Check.refused("put x and v " + bad, index, () -> x.put(bad, 0, 0, 16));
    }
    for (int bad : new int[] {-1, 16, LEAST, MOST}) {
      Check.refused("put v " + bad, IllegalArgumentException.class, () -> x.put(0, 0, 0, bad));
    }
    Check.same("samples other than 9 after refusals", x.paint(9, 0), 0);
    FilterRows wide = new FilterRows(1, 1, 4, 1);
    Check.same("put 65535", wide.put(0, 0, 0, 65535), 0);
    Check.refused("put 65536", IllegalArgumentException.class, () -> wide.put(0, 0, 0, 65536));
  }

  private static void paintGoesThroughChannelsPlacesRows() {
    FilterRows x = new FilterRows(2, 2, 3, 2);
    Check.same("paint over zeros", x.paint(250, 3), 7);
    int[] due = {250, 253, 0, 3, 6, 9, 12, 15};
    for (int i = 0; i < 8; i++) {
      Check.same("painted " + i, x.at(i / 2 % 2, i / 4, i % 2), due[i]);
    }
    Check.same("paint the same", x.paint(250, 3), 0);
    Check.same("paint zeros", x.paint(0, 0), 7);
    Check.same("paint one value", x.paint(256 * 5 + 4, 256), 8);
    Check.same("the last of one value", x.at(1, 1, 1), 4);
  }

  private static void paintRunsOver() {
    FilterRows x = new FilterRows(3, 1, 2, 1);
    Check.same("paint downward", x.paint(-1, -1), 3);
    Check.same("downward 0", x.at(0, 0, 0), 15);
    Check.same("downward 1", x.at(1, 0, 0), 14);
    Check.same("downward 2", x.at(2, 0, 0), 13);
    FilterRows wide = new FilterRows(3, 1, 4, 1);
    Check.same("paint the ends of int", wide.paint(LEAST, MOST), 2);
    Check.same("ends 0", wide.at(0, 0, 0), 0);
    Check.same("ends 1", wide.at(1, 0, 0), 65535);
    Check.same("ends 2", wide.at(2, 0, 0), 65534);
    FilterRows one = new FilterRows(4, 1, 0, 1);
    Check.same("paint by odd steps", one.paint(-3, 7), 2);
    Check.same("odd 0", one.at(0, 0, 0), 1);
    Check.same("odd 1", one.at(1, 0, 0), 0);
  }

  private static void atRefuses() {
    Class<IndexOutOfBoundsException> index = IndexOutOfBoundsException.class;
    FilterRows x = new FilterRows(3, 2, 3, 2);
    Check.same("at the last", x.at(2, 1, 1), 0);
    for (int bad : new int[] {-1, 3, LEAST, MOST}) {
      Check.refused("at x " + bad, index, () -> x.at(bad, 0, 0));
      Check.refused("at y " + bad, index, () -> x.at(0, bad == 3 ? 2 : bad, 0));
      Check.refused("at channel " + bad, index, () -> x.at(0, 0, bad == 3 ? 2 : bad));
    }
  }

  private static void passes(FilterRows x, int what, int... due) {
    for (int pass = 0; pass <= 7; pass++) {
      Check.same("pass(" + pass + ", " + what + ") of " + x.told(0) + " x " + x.told(1),
          x.pass(pass, what), due[pass]);
    }
  }

  private static void passesOfTheLargestPicture() {
    FilterRows x = new FilterRows(16, 16, 4, 4);
    passes(x, 0, 16, 2, 2, 2, 4, 4, 8, 8);
    passes(x, 1, 128, 16, 16, 32, 32, 64, 64, 128);
    passes(x, 2, 256, 4, 4, 8, 16, 32, 64, 128);
    passes(new FilterRows(16, 16, 0, 1), 1, 2, 1, 1, 1, 1, 1, 1, 2);
  }

  private static void passesOfSmallPictures() {
    for (int what = 0; what <= 2; what++) {
      passes(new FilterRows(1, 1, 3, 1), what, 1, 1, 0, 0, 0, 0, 0, 0);
    }
    FilterRows flat = new FilterRows(16, 1, 3, 1);
    passes(flat, 0, 1, 1, 1, 0, 1, 0, 1, 0);
    passes(flat, 1, 16, 2, 2, 0, 4, 0, 8, 0);
    FilterRows high = new FilterRows(1, 16, 3, 1);
    passes(high, 0, 16, 2, 0, 2, 0, 4, 0, 8);
    passes(high, 1, 1, 1, 0, 1, 0, 1, 0, 1);
    FilterRows five = new FilterRows(5, 5, 3, 1);
    passes(five, 0, 5, 1, 1, 1, 2, 1, 3, 2);
    passes(five, 1, 5, 1, 1, 2, 1, 3, 2, 5);
    passes(five, 2, 25, 1, 1, 2, 2, 3, 6, 10);
    FilterRows four = new FilterRows(4, 4, 1, 1);
    passes(four, 0, 4, 1, 0, 0, 1, 1, 2, 2);
    passes(four, 1, 1, 1, 0, 0, 1, 1, 1, 1);
    passes(four, 2, 16, 1, 0, 0, 1, 2, 4, 8);
    passes(new FilterRows(9, 1, 0, 1), 1, 2, 1, 1, 0, 1, 0, 1, 0);
    passes(new FilterRows(5, 1, 1, 1), 1, 2, 1, 1, 0, 1, 0, 1, 0);
  }

  private static void passRefuses() {
    FilterRows x = new FilterRows(16, 16, 3, 1);
    for (int bad : new int[] {-1, 8, LEAST, MOST}) {
      Check.refused("pass " + bad, IllegalArgumentException.class, () -> x.pass(bad, 0));
      Check.refused("what " + bad, IllegalArgumentException.class, () -> x.pass(0, bad));
    }
    Check.refused("what 3", IllegalArgumentException.class, () -> x.pass(0, 3));
  }

  private static void cleanWipesWhatIsHidden() {
    FilterRows x = new FilterRows(2, 2, 3, 4);
    x.paint(1, 1);
    x.put(1, 0, 3, 0);
    x.put(0, 1, 3, 0);
    x.put(0, 1, 1, 0);
    Check.same("clean", x.clean(), 5);
    int[] due = {1, 2, 3, 4, 0, 0, 0, 0, 0, 0, 0, 0, 13, 14, 15, 16};
    for (int i = 0; i < 16; i++) {
      Check.same("cleaned " + i, x.at(i / 4 % 2, i / 8, i % 4), due[i]);
    }
    Check.same("clean again", x.clean(), 0);
    FilterRows two = new FilterRows(3, 1, 4, 2);
    two.put(0, 0, 0, 65535);
    two.put(2, 0, 0, 256);
    two.put(2, 0, 1, 256);
    Check.same("clean two channels", two.clean(), 1);
    Check.same("hidden", two.at(0, 0, 0), 0);
    Check.same("shown", two.at(2, 0, 0), 256);
  }

  private static void cleanNeedsAlpha() {
    for (int channels = 1; channels <= 3; channels += 2) {
      FilterRows x = new FilterRows(2, 2, 3, channels);
      x.put(0, 0, 0, 7);
      Check.refused("clean with channels " + channels, IllegalStateException.class, x::clean);
      Check.same("sample after that", x.at(0, 0, 0), 7);
    }
  }

  private static void toldTells() {
    FilterRows x = new FilterRows(3, 2, 4, 2);
    x.encode(0, 0, false);
    x.passOn();
    x.feed(9);
    x.colour(5);
    x.colour(5);
    int[] due = {3, 2, 16, 2, 4, 26, 27, 2};
    for (int what = 0; what < 8; what++) {
      Check.same("told(" + what + ")", x.told(what), due[what]);
    }
    for (int other : new int[] {-1, 8, LEAST, MOST}) {
      Check.same("told(" + other + ")", x.told(other), FilterRows.NONE);
    }
    Check.same("NONE", FilterRows.NONE, -1);
  }

  private static void clearForgets() {
    FilterRows x = new FilterRows(3, 2, 3, 2);
    x.paint(1, 1);
    x.encode(1, 0, true);
    x.passOn();
    x.colour(5);
    x.colour(3);
    Check.same("order before clear", x.order(0), 1);
    x.clear();
    size(x, 3, 2, 8, 2, 2);
    for (int what = 5; what <= 7; what++) {
      Check.same("told(" + what + ") when cleared", x.told(what), 0);
    }
    Check.refused("byteAt when cleared", IndexOutOfBoundsException.class, () -> x.byteAt(0));
    Check.refused("order when cleared", IndexOutOfBoundsException.class, () -> x.order(0));
    for (int kind = 0; kind <= 4; kind++) {
      Check.same("chosen when cleared", x.chosen(kind), 0);
    }
    Check.same("passOn when cleared", x.passOn(), 0);
    Check.same("decode when cleared", x.decode(false), -1);
    Check.same("samples not 0 when cleared", x.paint(0, 0), 0);
    Check.same("colour when cleared", x.colour(9), 0);
    Check.same("order of what came behind clear", x.order(0), 0);
  }
}
