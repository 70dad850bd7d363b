/** Makes pictures of given samples or bytes, and compares what they hold with what is due. */
public final class Pictures {
  private Pictures() {
  }

  /** Bits are told by 0 .. 4; as many rows as the samples make. */
  public static FilterRows picture(int width, int bits, int channels, int... samples) {
    FilterRows x = new FilterRows(width, samples.length / width / channels, bits, channels);
    for (int i = 0; i < samples.length; i++) {
      int place = i / channels;
      x.put(place % width, place / width, i % channels, samples[i]);
    }
    return x;
  }

  public static void feedAll(FilterRows x, int... bytes) {
    for (int b : bytes) {
      x.feed(b);
    }
  }

  public static void samplesAre(FilterRows x, int... due) {
    int width = x.told(0);
    int channels = x.told(3);
    for (int i = 0; i < due.length; i++) {
      int place = i / channels;
      Check.same("sample " + i, x.at(place % width, place / width, i % channels), due[i]);
    }
  }

  public static void lineIs(FilterRows x, int pass, int line, int kind, int... due) {
    Check.same("bytes of a line", x.pass(pass, 1), due.length);
    for (int i = 0; i < due.length; i++) {
      Check.same("filtered(" + pass + ", " + line + ", " + kind + ", " + i + ")",
          x.filtered(pass, line, kind, i), due[i]);
    }
  }

  public static void encodedIs(FilterRows x, int... due) {
    Check.same("bytes encoded", x.told(5), due.length);
    for (int i = 0; i < due.length; i++) {
      Check.same("byteAt(" + i + ")", x.byteAt(i), due[i]);
    }
  }
}
