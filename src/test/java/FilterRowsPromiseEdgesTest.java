/**
 * The boundary cases that promises 1 to 18 and the words on exceptions name: a method for each, and
 * the words that it is about.
 */
public final class FilterRowsPromiseEdgesTest {
  private static final int LEAST = Integer.MIN_VALUE;
  private static final int MOST = Integer.MAX_VALUE;
  private static final Class<IndexOutOfBoundsException> INDEX = IndexOutOfBoundsException.class;
  private static final Class<IllegalArgumentException> ARGUMENT = IllegalArgumentException.class;
  private static final Class<IllegalStateException> STATE = IllegalStateException.class;
  private static final Class<UnsupportedOperationException> MORE =
      UnsupportedOperationException.class;

  public static void main(String[] args) {
    aNewObjectHoldsNothing();
    theSmallestPicture();
    theLargestPicture();
    putAtTheCorners();
    putBeyondThePlaces();
    putOfNoSample();
    paintRunsOverTwoToTheBits();
    paintRunsOverAnInt();
    paintCountsOtherOnesAlone();
    atBeyondThePlaces();
    passOfNoPass();
    passOfNoWhat();
    filteredOfNoPassOrKind();
    filteredOfNoLine();
    filteredOfNoByte();
    worthOfNoPassKindOrWay();
    worthOfNoLine();
    encodeByNoWay();
    encodeForgetsWhatWasEncoded();
    byteAtOfNothing();
    byteAtBeyondTheBytes();
    chosenOfNothing();
    chosenOfNoKind();
    feedOfNoByte();
    feedUpTo4000();
    passOnOfNothing();
    passOnUpTo4000();
    passOnAbove4000();
    decodeOfNothing();
    decodeThatEndsLeavesThePicture();
    decodeThatEndsAtTheLastPlace();
    decodeTakesWhatIsToBeRead();
    decodeOf4000();
    cleanWithoutAlpha();
    cleanOfNothingHidden();
    cleanOfAllHidden();
    cleanAtTheSmallestAlpha();
    colourOfNoColour();
    colourUpTo64();
    orderOfNothing();
    orderBeyondTheColours();
    orderOfOne();
    orderOf64EqualOnes();
    orderAtTheGreatestDistance();
    orderAtTheEdgesOfRedGreenAndBlue();
    orderAfterEachNewColour();
    toldOfNoWhat();
    toldOfFullAndEmpty();
    clearOfANewObject();
    clearOfAFullObject();
    ofSeveralExceptionsTheFirst();
    callsThatThrowChangeNothing();
    callsThatThrowChangeNothingWhereItIsFull();
    Check.end();
  }

  // ---- promise 1

  /** "its samples are 0" */
  private static void aNewObjectHoldsNothing() {
    FilterRows x = new FilterRows(4, 4, 3, 4);
    Check.same("samples that are not 0", x.paint(0, 0), 0);
    for (int what = 5; what <= 7; what++) {
      Check.same("told(" + what + ")", x.told(what), 0);
    }
    // an object's picture is its own
    FilterRows other = new FilterRows(4, 4, 3, 4);
    x.paint(9, 0);
    x.encode(1, 0, false);
    x.colour(7);
    x.passOn();
    Check.same("the other's samples that are not 0", other.paint(0, 0), 0);
    for (int what = 5; what <= 7; what++) {
      Check.same("the other's told(" + what + ")", other.told(what), 0);
    }
  }

  private static void theSmallestPicture() {
    FilterRows x = new FilterRows(0, 0, 0, 0);
    Check.same("paint", x.paint(1, 1), 1);
    Check.same("encode", x.encode(5, 0, false), 2);
    Pictures.encodedIs(x, 0, 128);
    Check.same("encode laced", x.encode(5, 0, true), 2);
    Pictures.encodedIs(x, 0, 128);
    Check.same("passOn", x.passOn(), 2);
    x.paint(0, 0);
    Check.same("decode", x.decode(true), 1);
    Check.same("the sample", x.at(0, 0, 0), 1);
  }

  private static void theLargestPicture() {
    FilterRows x = new FilterRows(17, 17, 5, 5);
    Check.same("paint", x.paint(1, 77), 1024);
    Check.same("encode", x.encode(4, 0, false), 2064);
    Check.same("passOn", x.passOn(), 2064);
    x.paint(0, 0);
    Check.same("decode", x.decode(false), 16);
    Check.same("samples that came back otherwise", x.paint(1, 77), 0);
    Check.same("encode laced", x.encode(3, 0, true), 2078);
    Check.same("passOn laced", x.passOn(), 2078);
    x.paint(0, 0);
    Check.same("decode laced", x.decode(true), 30);
    Check.same("samples that came back otherwise", x.paint(1, 77), 0);
  }

  // ---- promise 2

  private static void putAtTheCorners() {
    FilterRows x = new FilterRows(16, 16, 4, 4);
    int v = 1;
    for (int y = 0; y <= 15; y += 15) {
      for (int column = 0; column <= 15; column += 15) {
        for (int channel = 0; channel <= 3; channel += 3) {
          Check.same("put", x.put(column, y, channel, v), 0);
          Check.same("put again", x.put(column, y, channel, v + 1), v);
          v += 2;
        }
      }
    }
    Check.same("the first", x.at(0, 0, 0), 2);
    Check.same("the last", x.at(15, 15, 3), 16);
    Check.same("samples that are not 0", x.paint(0, 0), 8);
  }

  /** "IndexOutOfBounds: there is no such place, channel" */
  private static void putBeyondThePlaces() {
    FilterRows x = new FilterRows(3, 5, 3, 2);
    for (int bad : new int[] {LEAST, -2, -1, 3, 4, 16, MOST}) {
      Check.refused("put at column " + bad, INDEX, () -> x.put(bad, 0, 0, 1));
    }
    for (int bad : new int[] {LEAST, -2, -1, 5, 6, 16, MOST}) {
      Check.refused("put at row " + bad, INDEX, () -> x.put(0, bad, 0, 1));
    }
    for (int bad : new int[] {LEAST, -2, -1, 2, 3, 4, MOST}) {
      Check.refused("put at channel " + bad, INDEX, () -> x.put(0, 0, bad, 1));
    }
    Check.same("samples that are not 0", x.paint(0, 0), 0);
  }

  /** "IllegalArgument: another number is none that is told" */
  private static void putOfNoSample() {
    int[] most = {1, 3, 15, 255, 65535};
    for (int bits = 0; bits <= 4; bits++) {
      FilterRows x = new FilterRows(2, 2, bits, 1);
      x.put(1, 1, 0, 1);
      for (int bad : new int[] {LEAST, -65536, -1, most[bits] + 1, most[bits] * 2 + 2, MOST}) {
        Check.refused("put " + bad, ARGUMENT, () -> x.put(1, 1, 0, bad));
      }
      Check.same("the sample before", x.put(1, 1, 0, most[bits]), 1);
    }
  }

  // ---- promise 3

  /** "each the step more, as its rest by 2^bits" */
  private static void paintRunsOverTwoToTheBits() {
    FilterRows one = new FilterRows(4, 1, 0, 1);
    one.paint(0, 1);
    Pictures.samplesAre(one, 0, 1, 0, 1);
    FilterRows two = new FilterRows(6, 1, 1, 1);
    two.paint(2, 1);
    Pictures.samplesAre(two, 2, 3, 0, 1, 2, 3);
    FilterRows four = new FilterRows(4, 1, 2, 1);
    four.paint(14, 1);
    Pictures.samplesAre(four, 14, 15, 0, 1);
    four.paint(1, -1);
    Pictures.samplesAre(four, 1, 0, 15, 14);
    FilterRows eight = new FilterRows(2, 1, 3, 2);
    eight.paint(254, 1);
    Pictures.samplesAre(eight, 254, 255, 0, 1);
    eight.paint(-256, -255);
    Pictures.samplesAre(eight, 0, 1, 2, 3);
    FilterRows sixteen = new FilterRows(4, 1, 4, 1);
    sixteen.paint(65534, 1);
    Pictures.samplesAre(sixteen, 65534, 65535, 0, 1);
    sixteen.paint(65536 * 3 + 5, 65536);
    Pictures.samplesAre(sixteen, 5, 5, 5, 5);
  }

  private static void paintRunsOverAnInt() {
    FilterRows x = new FilterRows(4, 1, 4, 1);
    x.paint(MOST, 1);
    Pictures.samplesAre(x, 65535, 0, 1, 2);
    x.paint(LEAST, -1);
    Pictures.samplesAre(x, 0, 65535, 65534, 65533);
    x.paint(MOST, MOST);
    Pictures.samplesAre(x, 65535, 65534, 65533, 65532);
    x.paint(LEAST, LEAST);
    Pictures.samplesAre(x, 0, 0, 0, 0);
  }

  /** "how many are other ones" */
  private static void paintCountsOtherOnesAlone() {
    FilterRows x = new FilterRows(16, 16, 3, 4);
    Check.same("all of them", x.paint(1, 0), 1024);
    Check.same("none of them", x.paint(1, 0), 0);
    Check.same("none, running over", x.paint(257, 256), 0);
    x.put(15, 15, 3, 2);
    Check.same("the last", x.paint(1, 0), 1);
    x.put(0, 0, 0, 2);
    Check.same("the first", x.paint(1, 0), 1);
    Check.same("all but each 256th", x.paint(1, 1), 1020);
  }

  // ---- promise 4

  private static void atBeyondThePlaces() {
    FilterRows x = new FilterRows(3, 5, 3, 2);
    x.paint(1, 1);
    Check.same("the first", x.at(0, 0, 0), 1);
    Check.same("the last", x.at(2, 4, 1), 30);
    for (int bad : new int[] {LEAST, -2, -1, 3, 4, 16, MOST}) {
      Check.refused("at column " + bad, INDEX, () -> x.at(bad, 1, 0));
    }
    for (int bad : new int[] {LEAST, -2, -1, 5, 6, 16, MOST}) {
      Check.refused("at row " + bad, INDEX, () -> x.at(1, bad, 0));
    }
    for (int bad : new int[] {LEAST, -2, -1, 2, 3, 4, MOST}) {
      Check.refused("at channel " + bad, INDEX, () -> x.at(1, 1, bad));
    }
  }

  // ---- promise 5

  /** "IllegalArgument: the pass is not 0 .. 7" */
  private static void passOfNoPass() {
    FilterRows x = new FilterRows(8, 8, 3, 1);
    Check.same("pass 0", x.pass(0, 0), 8);
    Check.same("pass 7", x.pass(7, 0), 4);
    for (int bad : new int[] {LEAST, -2, -1, 8, 9, MOST}) {
      for (int what = 0; what <= 2; what++) {
        int asked = what;
        Check.refused("pass " + bad, ARGUMENT, () -> x.pass(bad, asked));
      }
    }
  }

  /** "or another what": in a pass without places, too */
  private static void passOfNoWhat() {
    FilterRows x = new FilterRows(1, 1, 3, 1);
    for (int bad : new int[] {LEAST, -2, -1, 3, 4, MOST}) {
      for (int pass = 0; pass <= 7; pass++) {
        int asked = pass;
        Check.refused("what " + bad, ARGUMENT, () -> x.pass(asked, bad));
      }
      Check.refused("pass and what " + bad, ARGUMENT, () -> x.pass(bad, bad));
    }
  }

  // ---- promise 6

  /** "IllegalArgument: the pass, or the kind is not 0 .. 4" */
  private static void filteredOfNoPassOrKind() {
    FilterRows x = new FilterRows(8, 8, 3, 1);
    for (int bad : new int[] {LEAST, -2, -1, 8, 9, MOST}) {
      Check.refused("pass " + bad, ARGUMENT, () -> x.filtered(bad, 0, 0, 0));
      Check.refused("pass and kind " + bad, ARGUMENT, () -> x.filtered(bad, 0, bad, 0));
    }
    for (int bad : new int[] {LEAST, -2, -1, 5, 6, MOST}) {
      Check.refused("kind " + bad, ARGUMENT, () -> x.filtered(0, 0, bad, 0));
      Check.refused("kind " + bad + " in pass 7", ARGUMENT, () -> x.filtered(7, 3, bad, 7));
    }
  }

  /** "IndexOutOfBounds: there is no such .. line": a pass's own lines, not the picture's rows */
  private static void filteredOfNoLine() {
    FilterRows x = new FilterRows(8, 8, 3, 1);
    int[] lines = {8, 1, 1, 1, 2, 2, 4, 4};
    for (int pass = 0; pass <= 7; pass++) {
      int asked = pass;
      int last = lines[pass] - 1;
      Check.same("the last line of pass " + pass, x.filtered(pass, last, 0, 0), 0);
      for (int bad : new int[] {LEAST, -1, last + 1, last + 2, MOST}) {
        Check.refused("line " + bad + " of pass " + pass, INDEX,
            () -> x.filtered(asked, bad, 0, 0));
      }
    }
    FilterRows one = new FilterRows(1, 1, 3, 1);
    for (int pass = 2; pass <= 7; pass++) {
      int asked = pass;
      Check.refused("a line of no pass", INDEX, () -> one.filtered(asked, 0, 4, 0));
    }
  }

  /** "IndexOutOfBounds: there is no such .. byte": of the pass's lines; the kind is none of them */
  private static void filteredOfNoByte() {
    FilterRows x = new FilterRows(8, 8, 4, 1);
    int[] bytes = {16, 2, 2, 4, 4, 8, 8, 16};
    for (int pass = 0; pass <= 7; pass++) {
      int asked = pass;
      int last = bytes[pass] - 1;
      Check.same("the last byte of pass " + pass, x.filtered(pass, 0, 0, last), 0);
      for (int bad : new int[] {LEAST, -1, last + 1, last + 2, MOST}) {
        Check.refused("byte " + bad + " of pass " + pass, INDEX,
            () -> x.filtered(asked, 0, 0, bad));
      }
    }
    FilterRows bits = new FilterRows(9, 1, 0, 1);
    Check.same("the second byte of nine bits", bits.filtered(0, 0, 0, 1), 0);
    Check.refused("a third", INDEX, () -> bits.filtered(0, 0, 0, 2));
  }

  // ---- promise 7

  /** "IllegalArgument: the pass, the kind, or the way is not 5 .. 7" */
  private static void worthOfNoPassKindOrWay() {
    FilterRows x = new FilterRows(8, 8, 3, 1);
    for (int bad : new int[] {LEAST, -2, -1, 8, 9, MOST}) {
      Check.refused("pass " + bad, ARGUMENT, () -> x.worth(bad, 0, 0, 5));
    }
    for (int bad : new int[] {LEAST, -2, -1, 5, 6, MOST}) {
      Check.refused("kind " + bad, ARGUMENT, () -> x.worth(0, 0, bad, 6));
    }
    for (int bad : new int[] {LEAST, -1, 0, 1, 2, 3, 4, 8, 9, MOST}) {
      Check.refused("way " + bad, ARGUMENT, () -> x.worth(0, 0, 0, bad));
    }
    Check.same("way 5", x.worth(7, 3, 4, 5), 0);
    Check.same("way 6", x.worth(7, 3, 4, 6), 0);
    Check.same("way 7", x.worth(7, 3, 4, 7), 1);
  }

  private static void worthOfNoLine() {
    FilterRows x = new FilterRows(8, 8, 3, 1);
    int[] lines = {8, 1, 1, 1, 2, 2, 4, 4};
    for (int pass = 0; pass <= 7; pass++) {
      int asked = pass;
      int last = lines[pass] - 1;
      Check.same("the last line of pass " + pass, x.worth(pass, last, 0, 7), 1);
      for (int bad : new int[] {LEAST, -1, last + 1, last + 2, MOST}) {
        Check.refused("line " + bad + " of pass " + pass, INDEX, () -> x.worth(asked, bad, 0, 7));
      }
    }
    FilterRows one = new FilterRows(1, 1, 3, 1);
    for (int pass = 2; pass <= 7; pass++) {
      int asked = pass;
      Check.refused("a line of no pass", INDEX, () -> one.worth(asked, 0, 4, 6));
    }
  }

  // ---- promise 8

  /** "IllegalArgument: the way is not 0 .. 8" */
  private static void encodeByNoWay() {
    FilterRows x = new FilterRows(2, 2, 3, 1);
    for (int way = 0; way <= 8; way++) {
      Check.same("way " + way, x.encode(way, 5, way % 2 == 0), way % 2 == 0 ? 7 : 6);
    }
    for (int bad : new int[] {LEAST, -2, -1, 9, 10, MOST}) {
      Check.refused("way " + bad, ARGUMENT, () -> x.encode(bad, 5, false));
      Check.refused("way " + bad + " laced", ARGUMENT, () -> x.encode(bad, 5, true));
    }
    Check.same("what way 8 encoded stays", x.told(5), 7);
  }

  /** A longer encoding before leaves nothing behind a shorter one. */
  private static void encodeForgetsWhatWasEncoded() {
    FilterRows x = Pictures.picture(2, 3, 1, 1, 2, 3, 4);
    Check.same("laced", x.encode(0, 0, true), 7);
    Check.same("not laced", x.encode(1, 0, false), 6);
    Pictures.encodedIs(x, 1, 1, 1, 1, 3, 1);
    Check.refused("the seventh byte", INDEX, () -> x.byteAt(6));
    Check.same("lines of kind 0", x.chosen(0), 0);
    Check.same("lines of kind 1", x.chosen(1), 2);
    Check.same("passOn", x.passOn(), 6);
  }

  // ---- promise 9

  private static void byteAtOfNothing() {
    FilterRows x = new FilterRows(2, 2, 3, 1);
    x.feed(7);
    for (int bad : new int[] {LEAST, -1, 0, 1, MOST}) {
      Check.refused("byteAt " + bad, INDEX, () -> x.byteAt(bad));
    }
  }

  private static void byteAtBeyondTheBytes() {
    FilterRows x = new FilterRows(16, 16, 4, 4);
    x.paint(0x0708, 0);
    x.encode(0, 0, true);
    Check.same("the first", x.byteAt(0), 0);
    Check.same("the last", x.byteAt(2077), 8);
    for (int bad : new int[] {LEAST, -2, -1, 2078, 2079, MOST}) {
      Check.refused("byteAt " + bad, INDEX, () -> x.byteAt(bad));
    }
    x.encode(0, 0, false);
    Check.same("the last that is not laced", x.byteAt(2063), 8);
    Check.refused("byteAt 2064", INDEX, () -> x.byteAt(2064));
    Check.refused("byteAt 2077", INDEX, () -> x.byteAt(2077));
  }

  // ---- promise 10

  private static void chosenOfNothing() {
    FilterRows x = new FilterRows(2, 2, 3, 1);
    for (int kind = 0; kind <= 4; kind++) {
      Check.same("chosen(" + kind + ")", x.chosen(kind), 0);
    }
  }

  /** "IllegalArgument: it is not 0 .. 4" */
  private static void chosenOfNoKind() {
    FilterRows x = new FilterRows(2, 2, 3, 1);
    for (int bad : new int[] {LEAST, -2, -1, 5, 6, 8, MOST}) {
      Check.refused("chosen of nothing " + bad, ARGUMENT, () -> x.chosen(bad));
    }
    x.encode(4, 0, false);
    for (int bad : new int[] {LEAST, -2, -1, 5, 6, 8, MOST}) {
      Check.refused("chosen " + bad, ARGUMENT, () -> x.chosen(bad));
    }
    Check.same("kind 4", x.chosen(4), 2);
  }

  // ---- promise 11

  /** "IllegalArgument: it is not 0 .. 255" */
  private static void feedOfNoByte() {
    FilterRows x = new FilterRows(2, 2, 3, 1);
    for (int bad : new int[] {LEAST, -256, -1, 256, 257, 511, MOST}) {
      Check.refused("feed " + bad, ARGUMENT, () -> x.feed(bad));
    }
    Check.same("bytes to be read", x.told(6), 0);
    Check.same("feed 0", x.feed(0), 1);
    Check.same("feed 255", x.feed(255), 2);
  }

  /** Bytes to be read: 3696, which is seven times 528. */
  private static FilterRows with3696() {
    FilterRows x = new FilterRows(16, 16, 4, 1);
    x.encode(0, 0, false);
    for (int i = 0; i < 7; i++) {
      x.passOn();
    }
    return x;
  }

  private static FilterRows with4000() {
    FilterRows x = with3696();
    for (int i = 0; i < 304; i++) {
      x.feed(5);
    }
    return x;
  }

  /** "UnsupportedOperation: there are 4000" */
  private static void feedUpTo4000() {
    FilterRows x = with3696();
    for (int i = 0; i < 303; i++) {
      x.feed(5);
    }
    Check.same("the 4000th", x.feed(255), 4000);
    for (int b : new int[] {0, 5, 255}) {
      Check.refused("the 4001st", MORE, () -> x.feed(b));
    }
    Check.same("bytes to be read", x.told(6), 4000);
  }

  // ---- promise 12

  private static void passOnOfNothing() {
    FilterRows x = new FilterRows(2, 1, 3, 1);
    Check.same("nothing behind nothing", x.passOn(), 0);
    Check.same("nothing read", x.decode(false), -1);
    Pictures.feedAll(x, 0, 8, 9);
    Check.same("nothing behind bytes", x.passOn(), 3);
    Check.same("these read", x.decode(false), 1);
    Pictures.samplesAre(x, 8, 9);
  }

  /** "UnsupportedOperation: above 4000": 4000 is not */
  private static void passOnUpTo4000() {
    FilterRows x = new FilterRows(7, 10, 4, 4);
    x.paint(3, 5);
    Check.same("encode", x.encode(1, 0, false), 570);
    for (int i = 0; i < 10; i++) {
      x.feed(0);
    }
    for (int i = 1; i <= 7; i++) {
      Check.same("passOn", x.passOn(), 10 + 570 * i);
    }
    FilterRows one = new FilterRows(7, 10, 4, 4);
    one.encode(1, 0, false);
    for (int i = 0; i < 11; i++) {
      one.feed(0);
    }
    for (int i = 1; i <= 6; i++) {
      one.passOn();
    }
    Check.refused("passOn to 4001", MORE, one::passOn);
    Check.same("what is there stays", one.told(6), 3431);
  }

  private static void passOnAbove4000() {
    FilterRows x = with3696();
    Check.refused("passOn to 4224", MORE, x::passOn);
    Check.refused("and again", MORE, x::passOn);
    Check.same("what is there stays", x.told(6), 3696);
    Check.same("feed goes on", x.feed(1), 3697);
    Check.same("what was encoded stays", x.told(5), 528);
    x.decode(false);
    Check.same("passOn behind decoding", x.passOn(), 528);
  }

  // ---- promise 13

  private static void decodeOfNothing() {
    FilterRows x = new FilterRows(2, 2, 3, 1);
    x.paint(4, 4);
    Check.same("decode", x.decode(false), FilterRows.NONE);
    Check.same("decode laced", x.decode(true), FilterRows.NONE);
    Pictures.samplesAre(x, 4, 8, 12, 16);
  }

  /** "the picture stays then (what was to be read goes, too)" */
  private static void decodeThatEndsLeavesThePicture() {
    int[][] bytes = {{0, 1, 2, 9, 3, 4}, {0, 1, 2, 0, 3}, {0, 1, 2, 0, 3, 4, 0}};
    int[] due = {-4, -6, -7};
    for (int i = 0; i < bytes.length; i++) {
      FilterRows x = Pictures.picture(2, 3, 1, 50, 60, 70, 80);
      Pictures.feedAll(x, bytes[i]);
      Check.same("decode", x.decode(false), due[i]);
      Check.same("bytes to be read", x.told(6), 0);
      Pictures.samplesAre(x, 50, 60, 70, 80);
      Check.same("decode what went", x.decode(false), -1);
      // lines that were read before the end leave nothing for later
      Pictures.feedAll(x, 2, 5, 6, 2, 1, 1);
      Check.same("decode anew", x.decode(false), 2);
      Pictures.samplesAre(x, 5, 6, 6, 7);
    }
  }

  /** "of the byte that lacks, or of the first one that is left": one less and one more than all */
  private static void decodeThatEndsAtTheLastPlace() {
    FilterRows x = new FilterRows(16, 16, 3, 1);
    for (int laced = 0; laced <= 1; laced++) {
      int bytes = x.encode(4, 0, laced == 1);
      x.passOn();
      x.feed(0);
      Check.same("one more", x.decode(laced == 1), -1 - bytes);
      x.passOn();
      Check.same("all", x.decode(laced == 1), laced == 1 ? 30 : 16);
    }
    FilterRows less = new FilterRows(16, 1, 3, 1);
    for (int i = 0; i < 16; i++) {
      less.feed(1);
    }
    Check.same("one less", less.decode(false), -1 - 16);
    for (int i = 0; i < 17; i++) {
      less.feed(1);
    }
    Check.same("all", less.decode(false), 1);
    Check.same("the last sample", less.at(15, 0, 0), 16);
  }

  /** "What is to be read makes the picture .. and goes" */
  private static void decodeTakesWhatIsToBeRead() {
    FilterRows x = Pictures.picture(2, 3, 1, 1, 2);
    x.encode(0, 0, false);
    x.passOn();
    Check.same("decode", x.decode(false), 1);
    Check.same("bytes to be read", x.told(6), 0);
    Check.same("decode again", x.decode(false), -1);
    Check.same("what was encoded stays", x.told(5), 3);
    Check.same("its kind, too", x.chosen(0), 1);
  }

  private static void decodeOf4000() {
    FilterRows x = with4000();
    x.paint(9, 0);
    Check.same("decode", x.decode(false), -1 - 528);
    Check.same("bytes to be read", x.told(6), 0);
    Check.same("the picture stays", x.paint(9, 0), 0);
    Check.same("there is room again", x.feed(1), 1);
  }

  // ---- promise 14

  /** "IllegalState: it has 1 or 3 channels" */
  private static void cleanWithoutAlpha() {
    for (int channels : new int[] {LEAST, 0, 1, 3}) {
      FilterRows x = new FilterRows(2, 2, 3, channels);
      x.put(1, 1, 0, 9);
      Check.refused("clean of " + channels, STATE, x::clean);
      Check.same("the sample stays", x.at(1, 1, 0), 9);
    }
    for (int channels : new int[] {2, 4, 5, MOST}) {
      Check.same("clean of " + channels, new FilterRows(2, 2, 3, channels).clean(), 0);
    }
  }

  private static void cleanOfNothingHidden() {
    for (int channels = 2; channels <= 4; channels += 2) {
      FilterRows x = new FilterRows(4, 4, 3, channels);
      x.paint(1, 0);
      Check.same("clean", x.clean(), 0);
      Check.same("the samples stay", x.paint(1, 0), 0);
    }
  }

  /** "how many samples were others": those that were 0 are not counted */
  private static void cleanOfAllHidden() {
    for (int channels = 2; channels <= 4; channels += 2) {
      FilterRows x = new FilterRows(4, 4, 4, channels);
      Check.same("clean of zeros", x.clean(), 0);
      x.paint(65535, 0);
      for (int place = 0; place < 16; place++) {
        x.put(place % 4, place / 4, channels - 1, 0);
      }
      x.put(3, 3, 0, 0);
      Check.same("clean", x.clean(), 16 * (channels - 1) - 1);
      Check.same("clean again", x.clean(), 0);
      Check.same("samples that are not 0", x.paint(0, 0), 0);
    }
  }

  private static void cleanAtTheSmallestAlpha() {
    // an alpha of 1 shows, as does one of 256, whose lower byte is 0
    FilterRows x = Pictures.picture(3, 4, 2, 7, 1, 8, 0, 9, 256);
    Check.same("clean", x.clean(), 1);
    Pictures.samplesAre(x, 7, 1, 0, 0, 9, 256);
    // the other channels' zeros hide nothing
    FilterRows y = Pictures.picture(2, 3, 4, 0, 5, 6, 7, 5, 0, 0, 1);
    Check.same("clean", y.clean(), 0);
    Pictures.samplesAre(y, 0, 5, 6, 7, 5, 0, 0, 1);
  }

  // ---- promise 15

  /** "IllegalArgument: it is not 0 .. 16777215" */
  private static void colourOfNoColour() {
    FilterRows x = new FilterRows(1, 1, 0, 1);
    for (int bad : new int[] {LEAST, -16777216, -1, 16777216, 16777217, MOST}) {
      Check.refused("colour " + bad, ARGUMENT, () -> x.colour(bad));
    }
    Check.same("colours", x.told(7), 0);
    Check.same("colour 16777215", x.colour(16777215), 0);
    Check.same("colour 0", x.colour(0), 1);
    Check.same("the darker first", x.order(0), 1);
  }

  /** "UnsupportedOperation: there are 64" */
  private static void colourUpTo64() {
    FilterRows x = new FilterRows(1, 1, 0, 1);
    for (int i = 0; i < 63; i++) {
      x.colour(1000 + i);
    }
    Check.same("the 64th", x.colour(16777215), 63);
    for (int rgb : new int[] {0, 1000, 16777215}) {
      Check.refused("the 65th", MORE, () -> x.colour(rgb));
    }
    Check.same("colours", x.told(7), 64);
    Check.same("the last of the order", x.order(63), 63);
    x.clear();
    Check.same("behind clear", x.colour(0), 0);
  }

  // ---- promise 16

  private static void orderOfNothing() {
    FilterRows x = new FilterRows(1, 1, 0, 1);
    for (int bad : new int[] {LEAST, -1, 0, 1, 64, MOST}) {
      Check.refused("order " + bad, INDEX, () -> x.order(bad));
    }
  }

  /** "IndexOutOfBounds: there is no such .. colour" */
  private static void orderBeyondTheColours() {
    FilterRows x = new FilterRows(1, 1, 0, 1);
    for (int count = 1; count <= 64; count++) {
      int beyond = x.colour(100 + count) + 1;
      Check.same("the last place", x.order(count - 1), count - 1);
      Check.refused("one more", INDEX, () -> x.order(beyond));
    }
    for (int bad : new int[] {LEAST, -2, -1, 64, 65, MOST}) {
      Check.refused("order " + bad, INDEX, () -> x.order(bad));
    }
  }

  private static void orderOfOne() {
    for (int rgb : new int[] {0, 1, 16777215}) {
      FilterRows x = new FilterRows(1, 1, 0, 1);
      x.colour(rgb);
      Check.same("order(0)", x.order(0), 0);
    }
  }

  /** "of equal ones the least number" */
  private static void orderOf64EqualOnes() {
    for (int rgb : new int[] {0, 0x123456, 16777215}) {
      FilterRows x = new FilterRows(1, 1, 0, 1);
      for (int i = 0; i < 64; i++) {
        x.colour(rgb);
      }
      for (int place = 0; place < 64; place++) {
        Check.same("order(" + place + ")", x.order(place), place);
      }
    }
  }

  /** Black and white are as far from one another as two colours can be. */
  private static void orderAtTheGreatestDistance() {
    orderIs(new int[] {0xFFFFFF, 0xFFFFFF, 0}, 2, 0, 1);
  }

  /** "red times 65536, green times 256, and blue": 255 of one and 1 of the next are far apart */
  private static void orderAtTheEdgesOfRedGreenAndBlue() {
    // the first of the order: equal sums, then a sum that is one less
    orderIs(new int[] {0xFF0000, 0x00FF00}, 0, 1);
    orderIs(new int[] {0x00FF00, 0x0000FF}, 0, 1);
    orderIs(new int[] {0x0000FF, 0xFF0000}, 0, 1);
    orderIs(new int[] {0xFF0000, 0x00FE00}, 1, 0);
    orderIs(new int[] {0x00FF00, 0x0000FE}, 1, 0);
    orderIs(new int[] {0x0000FF, 0xFE0000}, 1, 0);
    orderIs(new int[] {0x0000FF, 0x000100}, 1, 0);
    orderIs(new int[] {0x00FFFF, 0x010000}, 1, 0);
    orderIs(new int[] {0xFFFFFF, 0xFFFFFE}, 1, 0);
    orderIs(new int[] {0x7F0000, 0x800000, 0x008000, 0x007F00, 0x000080, 0x00007F},
        0, 1, 3, 2, 5, 4);
    // the nearest to black: equal squares, then one that is nearer
    orderIs(new int[] {0, 0xFF0000, 0x00FF00, 0x0000FF}, 0, 1, 2, 3);
    orderIs(new int[] {0, 0xFF0000, 0x00FE00}, 0, 2, 1);
    orderIs(new int[] {0, 0x00FF00, 0x0000FE}, 0, 2, 1);
    orderIs(new int[] {0, 0x0000FF, 0xFE0000}, 0, 2, 1);
    orderIs(new int[] {0, 0x0000FF, 0x000100}, 0, 2, 1);
    orderIs(new int[] {0, 0x00FF00, 0x010000}, 0, 2, 1);
    // 3, 4 and 0 are as far as 5; 2, 2 and 2 are nearer than 4
    orderIs(new int[] {0, 0x000005, 0x030400}, 0, 1, 2);
    orderIs(new int[] {0, 0x040003, 0x000500}, 0, 1, 2);
    orderIs(new int[] {0, 0x040000, 0x020202}, 0, 2, 1);
  }

  private static void orderIs(int[] colours, int... due) {
    FilterRows x = new FilterRows(1, 1, 0, 1);
    for (int rgb : colours) {
      x.colour(rgb);
    }
    for (int place = 0; place < due.length; place++) {
      Check.same("order(" + place + ")", x.order(place), due[place]);
    }
  }

  /** What was answered before does not hold a later colour back. */
  private static void orderAfterEachNewColour() {
    FilterRows x = new FilterRows(1, 1, 0, 1);
    for (int count = 1; count <= 64; count++) {
      x.colour(64 - count);
      Check.same("the first of " + count, x.order(0), count - 1);
      Check.same("the last of " + count, x.order(count - 1), 0);
    }
  }

  // ---- promise 17

  /** "NONE for another what" */
  private static void toldOfNoWhat() {
    FilterRows x = new FilterRows(2, 2, 3, 1);
    for (int other : new int[] {LEAST, -2, -1, 8, 9, 16, MOST}) {
      Check.same("told(" + other + ")", x.told(other), -1);
    }
  }

  private static void toldOfFullAndEmpty() {
    FilterRows x = with4000();
    for (int i = 0; i < 64; i++) {
      x.colour(i);
    }
    int[] due = {16, 16, 16, 1, 2, 528, 4000, 64};
    for (int what = 0; what <= 7; what++) {
      Check.same("told(" + what + ") when full", x.told(what), due[what]);
    }
    x.clear();
    int[] cleared = {16, 16, 16, 1, 2, 0, 0, 0};
    for (int what = 0; what <= 7; what++) {
      Check.same("told(" + what + ") when cleared", x.told(what), cleared[what]);
    }
  }

  // ---- promise 18

  private static void clearOfANewObject() {
    FilterRows x = new FilterRows(2, 2, 3, 2);
    String before = text(x);
    FilterRows y = new FilterRows(2, 2, 3, 2);
    y.clear();
    y.clear();
    Check.sameText("what is seen when cleared", text(y), before);
  }

  private static void clearOfAFullObject() {
    FilterRows x = with4000();
    x.paint(65535, 0);
    for (int i = 0; i < 64; i++) {
      x.colour(64 - i);
    }
    x.order(63);
    x.clear();
    Check.same("samples that are not 0", x.paint(0, 0), 0);
    Check.same("passOn of nothing", x.passOn(), 0);
    Check.same("decode of nothing", x.decode(false), -1);
    Check.same("chosen", x.chosen(0), 0);
    Check.refused("byteAt", INDEX, () -> x.byteAt(0));
    Check.refused("order", INDEX, () -> x.order(0));
    Check.same("a byte", x.feed(9), 1);
    Check.same("a colour", x.colour(64), 0);
    Check.same("a second one", x.colour(1), 1);
    Check.same("the darker first", x.order(0), 1);
    Check.same("then the other", x.order(1), 0);
  }

  // ---- exceptions

  /** "Of several that a call names, the first one." */
  private static void ofSeveralExceptionsTheFirst() {
    FilterRows x = new FilterRows(2, 2, 3, 1);
    for (int bad : new int[] {LEAST, -1, 256, MOST}) {
      Check.refused("put at no column, no sample", INDEX, () -> x.put(bad, 0, 0, bad));
      Check.refused("put at no row, no sample", INDEX, () -> x.put(0, bad, 0, bad));
      Check.refused("put at no channel, no sample", INDEX, () -> x.put(0, 0, bad, bad));
      Check.refused("filtered of no pass, line", ARGUMENT, () -> x.filtered(bad, bad, 0, 0));
      Check.refused("filtered of no pass, byte", ARGUMENT, () -> x.filtered(bad, 0, 0, bad));
      Check.refused("filtered of no kind, line", ARGUMENT, () -> x.filtered(0, bad, bad, 0));
      Check.refused("filtered of no kind, byte", ARGUMENT, () -> x.filtered(0, 0, bad, bad));
      Check.refused("filtered of nothing", ARGUMENT, () -> x.filtered(bad, bad, bad, bad));
      Check.refused("filtered of no kind, empty pass", ARGUMENT, () -> x.filtered(3, 0, bad, 0));
      Check.refused("worth of no pass, line", ARGUMENT, () -> x.worth(bad, bad, 0, 5));
      Check.refused("worth of no kind, line", ARGUMENT, () -> x.worth(0, bad, bad, 5));
      Check.refused("worth of no way, line", ARGUMENT, () -> x.worth(0, bad, 0, bad));
      Check.refused("worth of no way, empty pass", ARGUMENT, () -> x.worth(2, 0, 0, bad));
      Check.refused("worth of nothing", ARGUMENT, () -> x.worth(bad, bad, bad, bad));
    }
    FilterRows full = with4000();
    for (int i = 0; i < 64; i++) {
      full.colour(i);
    }
    for (int bad : new int[] {LEAST, -1, 16777216, MOST}) {
      Check.refused("feed no byte, full", ARGUMENT, () -> full.feed(bad));
      Check.refused("colour of none, full", ARGUMENT, () -> full.colour(bad));
    }
  }

  /** All that can be seen of an object, what is to be read at last, which decoding shows. */
  private static String text(FilterRows x) {
    StringBuilder seen = new StringBuilder();
    for (int what = 0; what <= 7; what++) {
      seen.append(x.told(what)).append(' ');
    }
    samples(x, seen);
    for (int i = 0; i < x.told(5); i++) {
      seen.append(x.byteAt(i)).append(' ');
    }
    for (int kind = 0; kind <= 4; kind++) {
      seen.append(x.chosen(kind)).append(' ');
    }
    for (int place = 0; place < x.told(7); place++) {
      seen.append(x.order(place)).append(' ');
    }
    seen.append(x.decode(true)).append(' ');
    samples(x, seen);
    return seen.toString();
  }

  private static void samples(FilterRows x, StringBuilder seen) {
    for (int y = 0; y < x.told(1); y++) {
      for (int column = 0; column < x.told(0); column++) {
        for (int channel = 0; channel < x.told(3); channel++) {
          seen.append(x.at(column, y, channel)).append(' ');
        }
      }
    }
  }

  private static FilterRows busy() {
    FilterRows x = new FilterRows(2, 2, 3, 3);
    x.paint(11, 17);
    x.encode(8, 77, true);
    x.passOn();
    x.paint(5, 3);
    x.encode(4, 0, false);
    x.colour(300);
    x.colour(200);
    x.colour(100);
    return x;
  }

  private interface Refusal {
    long of(FilterRows x);
  }

  private static void unchanged(String what, Class<? extends RuntimeException> due, Refusal call) {
    FilterRows x = busy();
    Check.refused(what, due, () -> call.of(x));
    Check.sameText("what is seen after " + what, text(x), text(busy()));
  }

  /** "A call that throws changes nothing." */
  private static void callsThatThrowChangeNothing() {
    unchanged("put at no column", INDEX, x -> x.put(2, 0, 0, 9));
    unchanged("put at no row", INDEX, x -> x.put(0, -1, 0, 9));
    unchanged("put at no channel", INDEX, x -> x.put(0, 0, 3, 9));
    unchanged("put of no sample", ARGUMENT, x -> x.put(0, 0, 0, 256));
    unchanged("at", INDEX, x -> x.at(0, 2, 0));
    unchanged("pass", ARGUMENT, x -> x.pass(8, 0));
    unchanged("pass by no what", ARGUMENT, x -> x.pass(0, 3));
    unchanged("filtered of no kind", ARGUMENT, x -> x.filtered(0, 0, 5, 0));
    unchanged("filtered of no line", INDEX, x -> x.filtered(0, 2, 0, 0));
    unchanged("filtered of no byte", INDEX, x -> x.filtered(0, 0, 0, 6));
    unchanged("worth of no way", ARGUMENT, x -> x.worth(0, 0, 0, 8));
    unchanged("worth of no line", INDEX, x -> x.worth(0, 2, 0, 5));
    unchanged("encode by 9", ARGUMENT, x -> x.encode(9, 0, false));
    unchanged("encode by -1 laced", ARGUMENT, x -> x.encode(-1, 0, true));
    unchanged("byteAt", INDEX, x -> x.byteAt(14));
    unchanged("chosen", ARGUMENT, x -> x.chosen(5));
    unchanged("feed", ARGUMENT, x -> x.feed(256));
    unchanged("clean", STATE, x -> x.clean());
    unchanged("colour", ARGUMENT, x -> x.colour(16777216));
    unchanged("order", INDEX, x -> x.order(3));
  }

  /** "A call that throws changes nothing": 4000 bytes, the same ones, and 64 colours stay. */
  private static void callsThatThrowChangeNothingWhereItIsFull() {
    FilterRows x = with4000();
    Check.refused("feed", MORE, () -> x.feed(0));
    Check.refused("passOn", MORE, x::passOn);
    Check.same("bytes to be read", x.told(6), 4000);
    Check.same("bytes encoded", x.told(5), 528);
    Check.same("lines of kind 0", x.chosen(0), 16);
    Check.same("decode", x.decode(false), -1 - 528);
    FilterRows y = new FilterRows(1, 1, 3, 1);
    for (int i = 0; i < 64; i++) {
      y.colour(63 - i);
    }
    Check.refused("colour", MORE, () -> y.colour(0));
    for (int place = 0; place < 64; place++) {
      Check.same("order(" + place + ")", y.order(place), 63 - place);
    }
    // of a refused passOn no byte comes, so that what is there can still be read
    FilterRows z = new FilterRows(16, 16, 4, 4);
    z.paint(7, 9);
    z.encode(4, 0, true);
    z.passOn();
    z.paint(0, 0);
    Check.refused("passOn to 4156", MORE, z::passOn);
    Check.same("decode what is there", z.decode(true), 30);
    Check.same("samples that came back otherwise", z.paint(7, 9), 0);
  }
}
