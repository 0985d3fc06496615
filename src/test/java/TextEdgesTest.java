/** The edges of the tape, of a TOWN and of PEOPLE as TEXTS, and of their FAULTS. */
public final class TextEdgesTest extends Kit {
  private static final long BLANKS = 0x2020_2020_2020_2020L;

  public static void main(String[] args) {
    howManyBytes();
    whichBytes();
    bytesAbove();
    highestFirst();
    fullTape();
    refusedTypeLeavesTheTape();
    townOfOneToEight();
    kindsOfTown();
    yardsOfTown();
    placesOfTown();
    ownersOfTown();
    restsOfTown();
    starsOfTown();
    orderInAPart();
    blanksOfTown();
    endOfTown();
    firstFaultOnly();
    townInPlaceOfAll();
    faultLeavesAll();
    peopleOfOneToFour();
    digitsOfPeople();
    endOfPeople();
    peopleInPlaceOfThoseTold();
    fullTapesAreRead();
    end();
  }

  private static void faultOf(String text, int place) {
    due("9 fault of '" + text + "'", townAnswer(text), -20 - place);
  }

  private static void taken(String text, int parts) {
    due("9 '" + text + "'", townAnswer(text), parts);
  }

  /** What is told of a part of a text, as one row. */
  private static void part(String text, int part, int... told) {
    DownAsUp x = townOf(text);
    for (int what = 0; what < told.length; what++)
      due("9 told(" + part + ", " + what + ") of '" + text + "'", x.told(part, what), told[what]);
  }

  private static int peopleAnswer(String town, String text) {
    DownAsUp x = townOf(town);
    type(x, text);
    return x.people();
  }

  // "The n lowest bytes (1 .. 8) of w", "BAD: n"
  private static void howManyBytes() {
    DownAsUp x = new DownAsUp();
    for (int n : new int[] {MIN, -8, -1, 0, 9, 10, 64, 256 + 1, 65536 + 1, MAX}) due("8 n " + n, x.type(BLANKS, n), BAD);
    int size = 0;
    for (int n = 1; n <= 8; n++) {
      size += n;
      due("8 n " + n, x.type(BLANKS, n), size);
    }
  }

  // "BAD: a byte not 32 .. 126", in each of the eight places
  private static void whichBytes() {
    int[] not = {0, 1, 9, 10, 13, 31, 127, 128, 160, 200, 254, 255};
    int[] good = {32, 33, 48, 125, 126};
    for (int at = 0; at < 8; at++) {
      DownAsUp x = new DownAsUp();
      long others = BLANKS & ~(255L << 8 * at);
      for (long b : not) due("8 byte " + b + " at " + at, x.type(others | b << 8 * at, 8), BAD);
      for (int b : not) due("8 byte " + b + " as the highest of " + (at + 1), x.type(others | (long) b << 8 * at, at + 1), BAD);
      int size = 0;
      for (long b : good) due("8 byte " + b + " at " + at, x.type(others | b << 8 * at, 8), size += 8);
    }
  }

  // "The n lowest bytes": those above are not looked at.
  private static void bytesAbove() {
    for (int n = 1; n < 8; n++) {
      DownAsUp x = new DownAsUp();
      long low = BLANKS >>> 8 * (8 - n), high = -1L << 8 * n;
      due("8 bytes 255 above " + n, x.type(high | low, n), n);
      due("8 bytes 0 above " + n, x.type(low, n), 2 * n);
      due("8 bytes 0 above " + n + ", one too many", x.type(low, n + 1), BAD);
      due("8 bytes 255 above " + n + ", one too many", x.type(high | low, n + 1), BAD);
      due("8 only the highest is above " + n, x.type(Long.MIN_VALUE | low, n), 3 * n);
    }
  }

  // "of these the highest first, come behind THE TAPE"
  private static void highestFirst() {
    DownAsUp x = new DownAsUp();
    due("8 h1@2o3*,", x.type(0x6831_4032_6f33_2a2cL, 8), 8);
    due("8 b", x.type('b', 1), 9);
    due("8 7", x.type('7', 1), 10);
    due("8 two parts", x.town(), 2);
    int[][] told = {{0, 1, 2, 3, 0, 1}, {1, 7, 0, 0, 0, 0}};
    for (int p = 0; p < 2; p++) for (int what = 0; what < 6; what++) due("8 told", x.told(p, what), told[p][what]);
  }

  // "how many it has", "FULL: 160"
  private static void fullTape() {
    for (int n = 1; n <= 8; n++) {
      DownAsUp x = new DownAsUp();
      for (int i = 1; i <= 19; i++) due("8 blanks", x.type(BLANKS, 8), 8 * i);
      for (int i = 8; i > n; i--) due("8 one blank", x.type(' ', 1), 160 - i + 1);
      if (n < 8) due("8 " + (n + 1) + " where " + n + " are left", x.type(BLANKS, n + 1), FULL);
      due("8 " + n + " where " + n + " are left", x.type(BLANKS, n), 160);
      for (int k = 1; k <= 8; k++) due("8 " + k + " where none is left", x.type(BLANKS, k), FULL);
      due("8 BAD ahead of FULL: n 0", x.type(BLANKS, 0), BAD);
      due("8 BAD ahead of FULL: n 9", x.type(BLANKS, 9), BAD);
      due("8 BAD ahead of FULL: byte 31", x.type(31, 1), BAD);
      due("8 BAD ahead of FULL: byte 127", x.type(127, 1), BAD);
      due("8 all blank: the end", x.town(), -180);
      due("8 empty then", x.type(' ', 1), 1);
    }
  }

  // "What is refused changes nothing": no byte of a refused w comes.
  private static void refusedTypeLeavesTheTape() {
    DownAsUp x = new DownAsUp();
    type(x, "h5");
    x.type(0x3131_1f31L, 4);
    x.type(0x3131_317fL, 4);
    x.type(0x31L, 0);
    x.type(0x31L, 9);
    due("8 two bytes yet", x.type('@', 1), 3);
    due("8 and one", x.type('7', 1), 4);
    due("8 it is h5@7", x.town(), 1);
    due("8 YARDS 5", x.told(0, 1), 5);
    due("8 PLACE 7", x.told(0, 2), 7);
    DownAsUp y = new DownAsUp();
    type(y, "h5");
    for (int i = 0; i < 19; i++) y.type(BLANKS, 8);
    due("8 154 bytes, 7 more", y.type(0x2c_6837_2c68_372cL, 7), FULL);
    due("8 154 bytes, 6 more", y.type(0x2020_2020_2a20L, 6), 160);
    due("8 one part, which stands", y.town(), 1);
    due("8 it stands", y.count(1), 1);
  }

  // "1 to 8 with , between"
  private static void townOfOneToEight() {
    String text = "";
    for (int n = 1; n <= 8; n++) {
      text += (n == 1 ? "" : ",") + "h" + n;
      taken(text, n);
      DownAsUp x = townOf(text);
      due("9 how many", x.count(0), n);
      due("9 the last", x.told(n - 1, 1), n);
      due("9 none behind it", x.told(n, 1), BAD);
      due("9 none stands", x.count(1), 0);
    }
    faultOf(text + ",h9", 23);
    faultOf(text + ",", 23);
    faultOf(text + " , h9", 24);
    faultOf(text + "h9", 23);
    faultOf("", 0);
    faultOf(",h1", 0);
    faultOf("h1,,h1", 3);
    faultOf("h1;h1", 2);
    faultOf("h1.h1", 2);
    faultOf("h1 h1", 3);
  }

  // "h b c r (KINDS in this order)"
  private static void kindsOfTown() {
    String[] kinds = {"h1", "b1", "c1", "r1"};
    for (int kind = 0; kind < 4; kind++) part(kinds[kind], 0, kind, 1, 0, 0, 0, 0);
    for (String text : new String[] {"a1", "d1", "g1", "i1", "q1", "s1", "H1", "B1", "C1", "R1", "11", "@1", "*", "/0", "o1", "~1"})
      faultOf(text, 0);
    faultOf("h1,H1", 3);
    faultOf("h1,1", 3);
    faultOf("hh1", 1);
    faultOf("hb1", 1);
  }

  // "a number (YARDS)", "of a number that may not be its first byte"
  private static void yardsOfTown() {
    for (int yards : new int[] {1, 2, 9, 10, 98, 99}) part("h" + yards, 0, 0, yards, 0, 0, 0, 0);
    for (String number : new String[] {"0", "00", "100", "101", "199", "990", "999", "1000", "0100"}) faultOf("h" + number, 1);
    // Each of these would be 1 or 5, if it were cut to 8, 16, 32 or 64 bits.
    for (String number : new String[] {"257", "65537", "4294967297", "8589934597", "18446744073709551617"}) faultOf("h" + number, 1);
    for (String number : new String[] {"2147483647", "2147483648", "9223372036854775807", "9223372036854775808"})
      faultOf("h" + number, 1);
    faultOf("h 100", 2);
    faultOf("h  0", 3);
    faultOf("h1,h100", 4);
    faultOf("h1,h0", 4);
    faultOf("h100x", 1);
    faultOf("h0@100", 1);
    faultOf("h-1", 1);
    faultOf("h+1", 1);
    faultOf("h1.5", 2);
    faultOf("hx", 1);
    faultOf("h@1", 1);
    faultOf("h/", 1);
    faultOf("h:", 1);
    part("h01", 0, 0, 1, 0, 0, 0, 0);
    part("h099", 0, 0, 99, 0, 0, 0, 0);
    StringBuilder noughts = new StringBuilder("h");
    while (noughts.length() < 159) noughts.append('0');
    faultOf(noughts + "0", 1);
    part(noughts + "1", 0, 0, 1, 0, 0, 0, 0);
    faultOf(noughts.toString().replace('0', '9') + "9", 1);
  }

  // "perhaps @ and a number (PLACE; 0)"
  private static void placesOfTown() {
    for (int place : new int[] {0, 1, 9, 10, 98, 99}) part("h5@" + place, 0, 0, 5, place, 0, 0, 0);
    part("h5", 0, 0, 5, 0, 0, 0, 0);
    part("h5@00", 0, 0, 5, 0, 0, 0, 0);
    part("h5@099", 0, 0, 5, 99, 0, 0, 0);
    for (String number : new String[] {"100", "101", "999", "1000", "256", "65536", "4294967296", "4294967297", "18446744073709551616"})
      faultOf("h5@" + number, 3);
    faultOf("h5@", 3);
    faultOf("h5@ ", 4);
    faultOf("h5@ 100", 4);
    faultOf("h5@-1", 3);
    faultOf("h5@o1", 3);
    faultOf("h5@*", 3);
    faultOf("h5@,h5", 3);
    faultOf("h5@@1", 3);
    faultOf("h5@1@1", 4);
  }

  // "perhaps o and a digit 0 .. 3 (OWNER; 0)"
  private static void ownersOfTown() {
    for (int owner = 0; owner < 4; owner++) part("h5o" + owner, 0, 0, 5, 0, owner, 0, 0);
    for (String digit : new String[] {"4", "5", "9", "-", "o", "/", ":", "*", ",", "h"}) faultOf("h5o" + digit, 3);
    faultOf("h5o", 3);
    faultOf("h5o ", 4);
    faultOf("h5o00", 4);
    faultOf("h5o12", 4);
    faultOf("h5o1 2", 5);
    faultOf("h5o1o1", 4);
    faultOf("h5O1", 2);
    faultOf("h50o4", 4);
  }

  // "perhaps / and a digit or more (parts told before, each once: it RESTS on these)"
  private static void restsOfTown() {
    part("h5,h5/0", 1, 0, 5, 0, 0, 1, 0);
    part("h1,h1,h1,h1,h1,h1,h1,h1/0123456", 7, 0, 1, 0, 0, 127, 0);
    part("h1,h1,h1,h1,h1,h1,h1,h1/6543210", 7, 0, 1, 0, 0, 127, 0);
    part("h1,h1,h1,h1,h1,h1,h1,h1/6", 7, 0, 1, 0, 0, 64, 0);
    faultOf("h1,h1,h1,h1,h1,h1,h1,h1/7", 24);
    faultOf("h1,h1,h1,h1,h1,h1,h1,h1/8", 24);
    faultOf("h1,h1,h1,h1,h1,h1,h1,h1/9", 24);
    faultOf("h1,h1,h1,h1,h1,h1,h1,h1/01234567", 31);
    faultOf("h1,h1,h1,h1,h1,h1,h1,h1/01234566", 31);
    faultOf("h5/0", 3);
    faultOf("h5/", 3);
    faultOf("h5,h5/", 6);
    faultOf("h5,h5/ ", 7);
    faultOf("h5,h5/*", 6);
    faultOf("h5,h5/,h5", 6);
    faultOf("h5,h5/1", 6);
    faultOf("h5,h5/01", 7);
    faultOf("h5,h5/00", 7);
    faultOf("h5,h5/0 0", 8);
    faultOf("h5,h5,h5/010", 11);
    faultOf("h5,h5/0/0", 7);
    faultOf("h5,h5//0", 6);
    faultOf("h5,h5/:", 6);
    faultOf("h5,h5/0:", 7);
  }

  // "perhaps * (it stands)", "a part that stands and RESTS on one that does not: its *"
  private static void starsOfTown() {
    part("h5*", 0, 0, 5, 0, 0, 0, 1);
    part("h5", 0, 0, 5, 0, 0, 0, 0);
    faultOf("h5**", 3);
    faultOf("*h5", 0);
    faultOf("h*5", 1);
    faultOf("h5,h5/0*", 7);
    faultOf("h5,h5/0 *", 8);
    faultOf("h5*,h5,h5/01*", 12);
    faultOf("h5,h5*,h5/01*", 12);
    faultOf("h5,h5/0*,x", 7);
    taken("h5*,h5/0*", 2);
    taken("h5*,h5*,h5/01*", 3);
    taken("h5,h5/0", 2);
    part("h5*,h5/0", 1, 0, 5, 0, 0, 1, 0);
    due("9 all of eight stand", townOf("h1*,h1/0*,h1/1*,h1/2*,h1/3*,h1/4*,h1/5*,h1/6*").count(1), 255);
    faultOf("h1*,h1/0*,h1/1*,h1/2*,h1/3*,h1/4*,h1/5,h1/6*", 43);
  }

  // The parts of a part come in the order told, each at most once.
  private static void orderInAPart() {
    part("h1*,r98@97o3/0*", 1, 3, 98, 97, 3, 1, 1);
    faultOf("h5o1@1", 4);
    faultOf("h5*@1", 3);
    faultOf("h5*o1", 3);
    faultOf("h5,h5/0@1", 7);
    faultOf("h5,h5/0o1", 7);
    faultOf("h5*,h5*/0", 7);
    faultOf("@1h5", 0);
    faultOf("h5h5", 2);
  }

  // "blanks do not count, but end a number"
  private static void blanksOfTown() {
    part("  h  5  @  6  o  1  *  ,  b  7  /  0  *  ", 1, 1, 7, 0, 0, 1, 1);
    part("  h  5  @  6  o  1  *  ,  b  7  /  0  *  ", 0, 0, 5, 6, 1, 0, 1);
    part("h1*,h1*,h1 / 0 1 *", 2, 0, 1, 0, 0, 3, 1);
    faultOf("h5 5", 3);
    faultOf("h 5 5", 4);
    faultOf("h5  5", 4);
    faultOf("h5@1 2", 5);
    faultOf("h5@1  2", 6);
    faultOf("h0 1", 1);
    faultOf("   x", 3);
    faultOf("   ", 3);
    faultOf(" ", 1);
    faultOf("h5 , x", 5);
    faultOf("h5 ;", 3);
  }

  // "the end: how many bytes there are"
  private static void endOfTown() {
    faultOf("h", 1);
    faultOf("h ", 2);
    faultOf("h   ", 4);
    faultOf("h5,", 3);
    faultOf("h5, ", 4);
    faultOf("h5*,", 4);
    faultOf("h5@", 3);
    faultOf("h5o", 3);
    taken("h5 ", 1);
    taken("h5* ", 1);
    taken("h5@1 ", 1);
    taken("h5o1 ", 1);
    taken("h5,h5/0 ", 2);
  }

  // "the first byte that can't stand there"
  private static void firstFaultOnly() {
    faultOf("x5,h0", 0);
    faultOf("h5@100o9", 3);
    faultOf("h5o9/9", 3);
    faultOf("h5/9*x", 3);
    faultOf("h5,h0,h100", 4);
    faultOf("h5,x,", 3);
  }

  // "in place of all parts", "how many parts (nobody is there then; THE WANTED TOWN is empty)"
  private static void townInPlaceOfAll() {
    DownAsUp x = greatTown();
    x.stand(255);
    for (int i = 0; i < 4; i++) x.person(255);
    x.want(255);
    x.set(0, 999);
    x.set(1, 999);
    x.image();
    x.sheet(0, 1, 24);
    due("9 typed", type(x, "c1"), 2);
    due("9 one part", x.town(), 1);
    int[] count = {1, 0, 999, 0, 0, 0};
    for (int what = 0; what < 6; what++) due("9 count(" + what + ")", x.count(what), count[what]);
    int[] told = {2, 1, 0, 0, 0, 0};
    for (int what = 0; what < 6; what++) due("9 told(0, " + what + ")", x.told(0, what), told[what]);
    due("9 no second part", x.told(1, 0), BAD);
    due("9 nothing is wanted", x.want(0), 0);
    due("9 WORK stays", x.set(1, 999), 999);
    due("9 people may come anew", x.person(1), 0);
    due("9 the sheet stays", x.drop(0), 24);
    due("9 the tape is empty", x.type('x', 1), 1);
    due("9 the image stays", x.restore(), 1);
    due("9 as it was", x.count(4), 792);
    due("9 the tape has its byte yet", x.type('y', 1), 2);
  }

  // "A FAULT (all stays)", while "THE TAPE is empty then"
  private static void faultLeavesAll() {
    String[] texts = {"", "x", "h5*,h5*,h5*,", "c1,c2,c3,c4,c5,c6,c7,c8,c9", "h9/0", "h9,h9/0*"};
    int[] places = {0, 0, 12, 23, 3, 7};
    for (int i = 0; i < texts.length; i++) {
      DownAsUp x = townOf("h10@11o1*,b20@12o2,c30@13o3/0*");
      x.person(1);
      x.person(6);
      x.want(6);
      x.set(0, 5);
      type(x, texts[i]);
      due("9 fault of '" + texts[i] + "'", x.town(), -20 - places[i]);
      int[] count = {3, 5, 5, 2, 40, 3};
      for (int what = 0; what < 6; what++) due("9 count(" + what + ") stays", x.count(what), count[what]);
      int[][] told = {{0, 10, 11, 1, 0, 1}, {1, 20, 12, 2, 0, 0}, {2, 30, 13, 3, 1, 1}};
      for (int p = 0; p < 3; p++) for (int what = 0; what < 6; what++) due("9 told stays", x.told(p, what), told[p][what]);
      due("9 want stays", x.want(0), 6);
      due("9 WORK stays", x.set(1, 200), 200);
      due("9 the tape is empty", x.type('h', 1), 1);
    }
  }

  // "PEOPLE are a TEXT: 1 to 4 with , between"
  private static void peopleOfOneToFour() {
    String text = "";
    for (int n = 1; n <= 4; n++) {
      text += (n == 1 ? "" : ",") + (n - 1);
      DownAsUp x = townOf("h1*,h1,h1,h1*");
      type(x, text);
      due("10 '" + text + "'", x.people(), n);
      due("10 how many", x.count(3), n);
      due("10 who is sheltered", x.count(5), n == 4 ? 9 : 1);
    }
    String town = "h1*,h1,h1,h1*";
    due("10 a fifth", peopleAnswer(town, text + ",0"), -27);
    due("10 a comma at the end", peopleAnswer(town, text + ","), -27);
    due("10 a fifth behind blanks", peopleAnswer(town, text + "  , 0"), -29);
    due("10 none", peopleAnswer(town, ""), -20);
    due("10 only a comma", peopleAnswer(town, ","), -20);
    due("10 two commas", peopleAnswer(town, "0,,1"), -22);
    due("10 another sign", peopleAnswer(town, "0;1"), -21);
    due("10 a comma ahead", peopleAnswer(town, ",0"), -20);
  }

  // "a digit or more, each once, of parts that there are"
  private static void digitsOfPeople() {
    String town = "";
    for (int n = 1; n <= 8; n++) {
      town += (n == 1 ? "" : ",") + "h1";
      due("10 the last of " + n, peopleAnswer(town, "" + (n - 1)), 1);
      due("10 one beyond " + n, peopleAnswer(town, "" + n), -20);
      due("10 all of " + n + " and one beyond", peopleAnswer(town, "01234567".substring(0, n) + n), -20 - n);
      due("10 all of " + n, peopleAnswer(town, "01234567".substring(0, n)), 1);
      due("10 all of " + n + ", the first again", peopleAnswer(town, "01234567".substring(0, n) + "0"), -20 - n);
    }
    due("10 a 9", peopleAnswer(town, "9"), -20);
    due("10 twice", peopleAnswer(town, "77"), -21);
    due("10 twice with blanks between", peopleAnswer(town, "7  7"), -23);
    due("10 the same by two of them", peopleAnswer(town, "7,7"), 2);
    due("10 a slash", peopleAnswer(town, "/"), -20);
    due("10 a colon", peopleAnswer(town, ":"), -20);
    due("10 a letter", peopleAnswer(town, "0h"), -21);
    due("10 a star", peopleAnswer(town, "0*"), -21);
    DownAsUp none = new DownAsUp();
    none.type('0', 1);
    due("10 of no parts", none.people(), -20);
    DownAsUp x = townOf("h1,h1,h1,h1,h1,h1,h1,h1");
    type(x, "7 0,1 2 3");
    due("10 blanks do not count", x.people(), 2);
    int[] who = {1, 2, 2, 2, 0, 0, 0, 1};
    for (int p = 0; p < 8; p++) {
      x.stand(1 << p);
      due("10 who is sheltered by " + p, x.count(5), who[p]);
    }
  }

  // "the end: how many bytes there are"
  private static void endOfPeople() {
    String town = "h1,h1";
    due("10 blanks only", peopleAnswer(town, "   "), -23);
    due("10 the end behind a comma", peopleAnswer(town, "0,"), -22);
    due("10 the end behind a comma and blanks", peopleAnswer(town, "0,   "), -25);
    due("10 blanks at the end", peopleAnswer(town, "0   "), 1);
    due("10 blanks at both ends", peopleAnswer(town, "  0  ,  1  "), 2);
    due("10 the first fault only", peopleAnswer(town, "0,2,00"), -22);
  }

  // "in place of those told", "A FAULT (those told stay)"
  private static void peopleInPlaceOfThoseTold() {
    DownAsUp x = townOf("h10@1o1*,h20,h30");
    x.want(6);
    x.set(0, 5);
    for (int i = 0; i < 4; i++) x.person(1);
    type(x, "1");
    due("10 one in place of four", x.people(), 1);
    due("10 one", x.count(3), 1);
    due("10 in the rain", x.count(5), 0);
    type(x, "0,0,0,3");
    due("10 a fault in the last", x.people(), -26);
    due("10 the one stays", x.count(3), 1);
    due("10 and by what", x.count(5), 0);
    type(x, "0,0,0,0,0");
    due("10 one too many", x.people(), -27);
    due("10 the one stays", x.count(3), 1);
    due("10 the tape is empty behind a fault", x.people(), -20);
    due("10 the one stays", x.count(3), 1);
    type(x, "0,0,0,0");
    due("10 four in place of one", x.people(), 4);
    due("10 all sheltered", x.count(5), 15);
    due("10 the tape is empty", x.type(' ', 1), 1);
    int[] told = {0, 10, 1, 1, 0, 1};
    for (int what = 0; what < 6; what++) due("10 parts stay", x.told(0, what), told[what]);
    due("10 want stays", x.want(6), 6);
    due("10 FREE stays", x.count(2), 5);
    due("10 can() knows of them", x.may(1, 0), 0);
  }

  // A tape of 160 bytes is read to its end.
  private static void fullTapesAreRead() {
    StringBuilder town = new StringBuilder("h1,h1,h1,h1,h1,h1,h1,b99@99o3/0123456");
    while (town.length() < 160) town.append(' ');
    part(town.toString(), 7, 1, 99, 99, 3, 127, 0);
    town.setCharAt(159, ',');
    faultOf(town.toString(), 159);
    StringBuilder late = new StringBuilder();
    while (late.length() < 157) late.append(' ');
    part(late + "r98", 0, 3, 98, 0, 0, 0, 0);
    part(late + "c7*", 0, 2, 7, 0, 0, 0, 1);
    faultOf(late + "h5,", 160);
    faultOf(late + "h5@", 160);
    faultOf(late + "h5x", 159);
    faultOf(late + "  h", 160);
    DownAsUp x = townOf("h1*,h1");
    due("10 160 bytes", type(x, late + "1,0"), 160);
    due("10 read to the end", x.people(), 2);
    due("10 the second is sheltered", x.count(5), 2);
    type(x, late + "1,,");
    due("10 a fault at the end", x.people(), -179);
    type(x, late + "10,");
    due("10 the end", x.people(), -180);
  }
}
