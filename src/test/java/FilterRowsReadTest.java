/** Promises 11 to 13: bytes that are to be read, what was encoded passed on, and decoding. */
public final class FilterRowsReadTest {
  private static final int LEAST = Integer.MIN_VALUE;
  private static final int MOST = Integer.MAX_VALUE;

  public static void main(String[] args) {
    feedCounts();
    feedEndsAt4000();
    passOnAppends();
    passOnEndsAt4000();
    decodeMakesThePicture();
    decodePassesOverBitsThatAreNoSamples();
    decodeEndsAtAKindAboveFour();
    decodeEndsWhereBytesLack();
    decodeEndsWhereBytesAreLeft();
    decodeReadsEveryEncoding();
    Check.end();
  }

  private static void feedCounts() {
    FilterRows x = new FilterRows(2, 1, 3, 1);
    Check.same("feed 0", x.feed(0), 1);
    Check.same("feed 255", x.feed(255), 2);
    for (int bad : new int[] {-1, 256, LEAST, MOST}) {
      Check.refused("feed " + bad, IllegalArgumentException.class, () -> x.feed(bad));
    }
    Check.same("bytes after refusals", x.told(6), 2);
    Check.same("feed 3", x.feed(3), 3);
    Check.same("decode", x.decode(false), 1);
    Pictures.samplesAre(x, 255, 3);
    Check.same("bytes after decoding", x.told(6), 0);
    Check.same("feed behind decoding", x.feed(1), 1);
  }

  private static FilterRows with3696() {
    FilterRows x = new FilterRows(16, 16, 4, 1);
    x.encode(0, 0, false);
    for (int i = 1; i <= 7; i++) {
      Check.same("passOn " + i, x.passOn(), 528 * i);
    }
    return x;
  }

  private static void feedEndsAt4000() {
    FilterRows x = with3696();
    for (int i = 0; i < 304; i++) {
      Check.same("feed " + i, x.feed(7), 3697 + i);
    }
    Check.refused("feed the 4001st", UnsupportedOperationException.class, () -> x.feed(7));
    Check.refused("feed no byte there", IllegalArgumentException.class, () -> x.feed(256));
    Check.refused("passOn there", UnsupportedOperationException.class, x::passOn);
    Check.same("bytes there", x.told(6), 4000);
    Check.same("decode them", x.decode(false), -1 - 528);
    Check.same("feed behind", x.feed(7), 1);
  }

  private static void passOnAppends() {
    FilterRows x = new FilterRows(2, 1, 3, 1);
    Check.same("passOn of nothing", x.passOn(), 0);
    x.feed(9);
    Check.same("passOn of nothing behind a byte", x.passOn(), 1);
    x.decode(false);
    x.paint(5, 1);
    x.encode(1, 0, false);
    Check.same("passOn", x.passOn(), 3);
    Check.same("what was encoded stays", x.byteAt(1), 5);
    Check.same("passOn again", x.passOn(), 6);
    Check.same("bytes to be read", x.told(6), 6);
    Check.same("decode both", x.decode(false), -4);
    x.paint(0, 0);
    x.feed(0);
    x.feed(8);
    Check.same("passOn behind bytes", x.passOn(), 5);
    Check.same("decode these", x.decode(false), -4);
    x.passOn();
    Check.same("decode one", x.decode(false), 1);
    Pictures.samplesAre(x, 5, 6);
  }

  private static void passOnEndsAt4000() {
    FilterRows x = with3696();
    Check.refused("passOn to 4224", UnsupportedOperationException.class, x::passOn);
    Check.same("bytes after the refusal", x.told(6), 3696);
    FilterRows y = new FilterRows(16, 16, 4, 4);
    y.encode(0, 0, false);
    Check.same("passOn 2064", y.passOn(), 2064);
    Check.refused("passOn 4128", UnsupportedOperationException.class, y::passOn);
    Check.same("2064 are there", y.told(6), 2064);
    FilterRows z = new FilterRows(7, 10, 4, 4);
    z.encode(0, 0, false);
    Check.same("570 bytes", z.told(5), 570);
    for (int i = 0; i < 10; i++) {
      z.feed(0);
    }
    for (int i = 1; i <= 7; i++) {
      Check.same("passOn", z.passOn(), 10 + 570 * i);
    }
    Check.same("just 4000", z.told(6), 4000);
    Check.refused("passOn above 4000", UnsupportedOperationException.class, z::passOn);
    Check.refused("feed above 4000", UnsupportedOperationException.class, () -> z.feed(0));
    z.clear();
    Check.same("passOn when cleared", z.passOn(), 0);
  }

  private static void decodeMakesThePicture() {
    FilterRows x = new FilterRows(3, 2, 3, 1);
    Pictures.feedAll(x, 0, 10, 20, 200, 0, 15, 18, 190);
    Check.same("kind 0", x.decode(false), 2);
    Pictures.samplesAre(x, 10, 20, 200, 15, 18, 190);
    int[][] encodings = {
      {1, 10, 10, 180, 1, 15, 3, 172},
      {2, 10, 20, 200, 2, 5, 254, 246},
      {3, 10, 15, 190, 3, 10, 1, 81},
      {4, 10, 10, 180, 4, 5, 254, 246},
      {4, 10, 10, 180, 3, 10, 1, 81},
    };
    for (int[] bytes : encodings) {
      x.paint(1, 1);
      Pictures.feedAll(x, bytes);
      Check.same("lines of kinds " + bytes[0] + bytes[4], x.decode(false), 2);
      Pictures.samplesAre(x, 10, 20, 200, 15, 18, 190);
    }
    FilterRows two = new FilterRows(2, 2, 3, 1);
    Pictures.feedAll(two, 2, 1, 1, 2, 4, 3, 1);
    Check.same("laced lines", two.decode(true), 3);
    Pictures.samplesAre(two, 1, 2, 3, 4);
    FilterRows rgb = new FilterRows(2, 1, 3, 3);
    Pictures.feedAll(rgb, 1, 1, 2, 3, 10, 20, 30);
    Check.same("a line of three channels", rgb.decode(false), 1);
    Pictures.samplesAre(rgb, 1, 2, 3, 11, 22, 33);
    FilterRows wide = new FilterRows(2, 1, 4, 1);
    Pictures.feedAll(wide, 1, 1, 2, 4, 5);
    Check.same("a line of 16 bits", wide.decode(false), 1);
    Pictures.samplesAre(wide, 258, 0x0507);
  }

  private static void decodePassesOverBitsThatAreNoSamples() {
    FilterRows x = new FilterRows(3, 2, 2, 1);
    Pictures.feedAll(x, 0, 0x12, 0x3F, 2, 0, 0x01);
    Check.same("lines with more bits", x.decode(false), 2);
    // 0x3F and 0x01 make 0x40: the bits passed over count for the byte below
    Pictures.samplesAre(x, 1, 2, 3, 1, 2, 4);
    x.encode(0, 0, false);
    Check.same("they are 0 when encoded", x.byteAt(2), 0x30);
    FilterRows one = new FilterRows(1, 3, 0, 1);
    Pictures.feedAll(one, 0, 0x7F, 2, 0x01, 3, 0x40);
    Check.same("lines of one bit", one.decode(false), 3);
    Pictures.samplesAre(one, 0, 1, 1);
    FilterRows laced = new FilterRows(1, 3, 0, 1);
    // passes 1, 5 and 7 have a line each, and nothing comes over from the one before
    Pictures.feedAll(laced, 0, 0x7F, 2, 0x01, 2, 0x80);
    Check.same("laced lines of one bit", laced.decode(true), 3);
    Pictures.samplesAre(laced, 0, 1, 0);
  }

  private static void refusedWhole(FilterRows x, boolean laced, int due, int... bytes) {
    x.paint(3, 1);
    Pictures.feedAll(x, bytes);
    Check.same("decode that ends", x.decode(laced), due);
    Check.same("bytes to be read then", x.told(6), 0);
    Check.same("samples that are others then", x.paint(3, 1), 0);
  }

  private static void decodeEndsAtAKindAboveFour() {
    FilterRows x = new FilterRows(2, 2, 3, 1);
    refusedWhole(x, false, -1, 5);
    refusedWhole(x, false, -1, 255, 1, 2, 0, 3, 4);
    refusedWhole(x, false, -4, 0, 1, 2, 5, 3, 4);
    refusedWhole(x, false, -4, 0, 1, 2, 5, 3, 4, 9, 9);
    refusedWhole(x, false, -4, 0, 1, 2, 5);
    refusedWhole(x, true, -3, 0, 1, 5, 2, 0, 3, 4);
    refusedWhole(x, true, -5, 0, 1, 0, 2, 6, 3, 4);
  }

  private static void decodeEndsWhereBytesLack() {
    FilterRows x = new FilterRows(2, 2, 3, 1);
    refusedWhole(x, false, -1);
    refusedWhole(x, false, -2, 4);
    refusedWhole(x, false, -3, 4, 200);
    refusedWhole(x, false, -4, 4, 200, 200);
    refusedWhole(x, false, -5, 4, 200, 200, 0);
    refusedWhole(x, false, -6, 4, 200, 200, 0, 1);
    refusedWhole(x, true, -1);
    refusedWhole(x, true, -3, 0, 1);
    refusedWhole(x, true, -7, 0, 1, 0, 2, 0, 3);
  }

  private static void decodeEndsWhereBytesAreLeft() {
    FilterRows x = new FilterRows(2, 2, 3, 1);
    refusedWhole(x, false, -7, 0, 1, 2, 0, 3, 4, 0);
    refusedWhole(x, false, -7, 0, 1, 2, 0, 3, 4, 0, 1, 2);
    refusedWhole(x, true, -8, 0, 1, 0, 2, 0, 3, 4, 255);
    x.paint(1, 1);
    x.encode(1, 0, true);
    x.passOn();
    Check.same("laced bytes read otherwise", x.decode(false), -7);
    x.passOn();
    Check.same("laced bytes read laced", x.decode(true), 3);
  }

  private static void decodeReadsEveryEncoding() {
    for (int told = 0; told <= 4; told++) {
      for (int channels = 1; channels <= 4; channels++) {
        for (int size = 1; size <= 16; size++) {
          thereAndBack(size, 17 - size, told, channels);
          thereAndBack(size, size, told, channels);
        }
      }
    }
  }

  private static void thereAndBack(int width, int height, int told, int channels) {
    FilterRows x = new FilterRows(width, height, told, channels);
    for (int way = 0; way <= 8; way++) {
      for (int laced = 0; laced <= 1; laced++) {
        x.paint(way * 31 + 5, width * 77 + height);
        int bytes = x.encode(way, width + way, laced == 1);
        int lines = 0;
        for (int kind = 0; kind <= 4; kind++) {
          lines += x.chosen(kind);
        }
        Check.same("bytes passed on", x.passOn(), bytes);
        x.paint(0, 0);
        Check.same("lines read back", x.decode(laced == 1), lines);
        Check.same("samples that came back otherwise",
            x.paint(way * 31 + 5, width * 77 + height), 0);
      }
    }
  }
}
