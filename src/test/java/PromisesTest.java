/** Each promise of the document, by hand: ordinary inputs, the edges that it names, wrong inputs. */
public final class PromisesTest extends Kit {
  public static void main(String[] args) {
    newObject();
    part();
    told();
    stand();
    person();
    set();
    want();
    type();
    town();
    townFaults();
    people();
    count();
    may();
    mayRestsAndShelter();
    week();
    can();
    canFirstOfWays();
    more();
    carry();
    build();
    buildOrders();
    worth();
    imageAndRestore();
    judged();
    wrongLines();
    sheet();
    drop();
    item();
    film();
    copy();
    end();
  }

  // Promise 1
  private static void newObject() {
    DownAsUp x = new DownAsUp();
    for (int what = 0; what <= 5; what++) due("1 count(" + what + ")", x.count(what), 0);
    due("1 WORK", x.set(1, 1), 200);
    due("1 FREE", x.set(0, 1), 0);
    due("1 want", x.want(0), 0);
    due("1 restore", x.restore(), NONE);
    due("1 can", x.can(-1), 0);
    due("1 an empty week", x.may(0, 0), 1);
    for (int s = 0; s < 4; s++) due("1 drop", x.drop(s), NULL);
    due("1 type", x.type('h', 1), 1);
  }

  // Promise 2
  private static void part() {
    DownAsUp x = new DownAsUp();
    due("2 kind -1", x.part(-1, 1, 0, 0, 0), BAD);
    due("2 kind 4", x.part(4, 1, 0, 0, 0), BAD);
    due("2 yards 0", x.part(0, 0, 0, 0, 0), BAD);
    due("2 yards 100", x.part(0, 100, 0, 0, 0), BAD);
    due("2 place -1", x.part(0, 1, -1, 0, 0), BAD);
    due("2 place 100", x.part(0, 1, 100, 0, 0), BAD);
    due("2 owner -1", x.part(0, 1, 0, -1, 0), BAD);
    due("2 owner 4", x.part(0, 1, 0, 4, 0), BAD);
    due("2 rests on itself", x.part(0, 1, 0, 0, 1), BAD);
    due("2 rests -1", x.part(0, 1, 0, 0, -1), BAD);
    due("2 rests MIN", x.part(0, 1, 0, 0, MIN), BAD);
    due("2 none came", x.count(0), 0);
    due("2 least", x.part(0, 1, 0, 0, 0), 0);
    due("2 most", x.part(3, 99, 99, 3, 1), 1);
    due("2 rests of those there are", x.part(0, 1, 0, 0, 4), BAD);
    for (int i = 2; i < 8; i++) due("2 part", x.part(i % 4, i, i, i % 4, (1 << i) - 1), i);
    due("2 BAD ahead of FULL", x.part(0, 1, 0, 0, 256), BAD);
    due("2 FULL", x.part(0, 1, 0, 0, 255), FULL);
    due("2 none stands", x.count(1), 0);
    due("2 eight", x.count(0), 8);
  }

  // Promise 3
  private static void told() {
    DownAsUp x = new DownAsUp();
    x.part(1, 2, 3, 1, 0);
    x.part(3, 99, 98, 3, 1);
    int[][] due = {{1, 2, 3, 1, 0, 0}, {3, 99, 98, 3, 1, 0}};
    for (int p = 0; p < 2; p++) for (int what = 0; what < 6; what++) due("3 told", x.told(p, what), due[p][what]);
    x.stand(1);
    due("3 stands", x.told(0, 5), 1);
    due("3 does not stand", x.told(1, 5), 0);
    for (int p : new int[] {-1, 2, 8, MAX, MIN}) due("3 part", x.told(p, 0), BAD);
    for (int what : new int[] {-1, 6, MAX, MIN}) due("3 what", x.told(0, what), BAD);
  }

  // Promise 4
  private static void stand() {
    DownAsUp x = townOf("h1,h2/0,h3/01");
    due("4 one without what it rests on", x.stand(2), NOT);
    due("4 one with half of it", x.stand(5), NOT);
    due("4 nothing changed", x.stand(7), 0);
    due("4 what stood", x.stand(3), 7);
    due("4 BAD", x.stand(8), BAD);
    due("4 BAD", x.stand(-1), BAD);
    due("4 nobody is asked", x.person(4), 0);
    due("4 into the rain", x.stand(0), 3);
    due("4 empty", x.stand(0), 0);
  }

  // Promise 5
  private static void person() {
    DownAsUp x = townOf("h1,h2");
    due("5 empty", x.person(0), BAD);
    due("5 no such part", x.person(4), BAD);
    due("5 below 0", x.person(-1), BAD);
    for (int i = 0; i < 4; i++) due("5 person", x.person(1 + i % 3), i);
    due("5 BAD ahead of FULL", x.person(0), BAD);
    due("5 FULL", x.person(1), FULL);
    due("5 four", x.count(3), 4);
    x.stand(2);
    due("5 who is sheltered", x.count(5), 2 + 4);
  }

  // Promise 6
  private static void set() {
    DownAsUp x = new DownAsUp();
    due("6 FREE", x.set(0, 999), 0);
    due("6 FREE again", x.set(0, 0), 999);
    due("6 FREE -1", x.set(0, -1), BAD);
    due("6 FREE 1000", x.set(0, 1000), BAD);
    due("6 WORK", x.set(1, 999), 200);
    due("6 WORK least", x.set(1, 1), 999);
    due("6 WORK 0", x.set(1, 0), BAD);
    due("6 WORK 1000", x.set(1, 1000), BAD);
    due("6 what", x.set(2, 5), BAD);
    due("6 what", x.set(-1, 5), BAD);
    due("6 WORK stays", x.set(1, 2), 1);
    due("6 FREE stays", x.count(2), 0);
  }

  // Promise 7
  private static void want() {
    DownAsUp x = townOf("h1,h2/0");
    due("7 want", x.want(2), 0);
    due("7 what was", x.want(3), 2);
    due("7 BAD", x.want(4), BAD);
    due("7 BAD", x.want(-1), BAD);
    due("7 stays", x.want(0), 3);
  }

  // Promise 8
  private static void type() {
    DownAsUp x = new DownAsUp();
    due("8 n 0", x.type('h', 0), BAD);
    due("8 n 9", x.type(0x6831_3131_3131_3131L, 9), BAD);
    due("8 n -1", x.type('h', -1), BAD);
    due("8 byte 31", x.type(0x681fL, 2), BAD);
    due("8 byte 127", x.type(0x7f68L, 2), BAD);
    due("8 byte 0", x.type('h', 2), BAD);
    due("8 byte 200", x.type(0xc8L, 1), BAD);
    due("8 only the lowest count", x.type(0x0168L, 1), 1);
    due("8 highest first", x.type(('7' << 8) + '*', 2), 3);
    due("8 it is h7*", x.town(), 1);
    due("8 it is h7*", x.count(4), 7);
    due("8 edges 32, 126", x.type(0x207eL, 2), 2);
    for (int i = 1; i < 20; i++) due("8 more", x.type(0x2020_2020_2020_2020L, 8), 2 + 8 * i);
    due("8 BAD ahead of FULL", x.type(0, 8), BAD);
    due("8 FULL", x.type(0x20_2020_2020_2020L, 7), FULL);
    due("8 to the last byte", x.type(0x2020_2020_2020L, 6), 160);
    due("8 FULL", x.type(' ', 1), FULL);
    due("8 a fault in it", x.town(), -21);
    due("8 empty then", x.type(' ', 1), 1);
    DownAsUp y = new DownAsUp();
    due("8 a long below 0", y.type(-1L << 8 | 'h', 1), 1);
  }

  // Promise 9
  private static void town() {
    DownAsUp x = townOf("h9,c8");
    x.person(3);
    x.want(3);
    x.set(0, 7);
    x.set(1, 77);
    due("9 tape", type(x, "b20@40o2*,r99@99o3/0*,c1@0o0/10,h07/2 0"), 39);
    due("9 town", x.town(), 4);
    int[][] parts = {{1, 20, 40, 2, 0, 1}, {3, 99, 99, 3, 1, 1}, {2, 1, 0, 0, 3, 0}, {0, 7, 0, 0, 5, 0}};
    for (int p = 0; p < 4; p++)
      for (int what = 0; what < 6; what++) due("9 told(" + p + "," + what + ")", x.told(p, what), parts[p][what]);
    due("9 nobody is there", x.count(3), 0);
    due("9 what stands", x.count(1), 3);
    due("9 FREE stays", x.count(2), 7);
    due("9 WORK stays", x.set(1, 200), 77);
    due("9 nothing is wanted", x.want(1), 0);
    x.person(1);
    type(x, "h5,");
    due("9 a fault", x.town(), -23);
    due("9 all stays", x.count(0), 4);
    due("9 people stay", x.count(3), 1);
    due("9 want stays", x.want(0), 1);
    due("9 what stands stays", x.count(1), 3);
    due("9 the tape is empty behind a fault", x.type('h', 1), 1);
    due("9 eight parts", townAnswer("h1,h1,h1,h1,h1,h1,h1,h1"), 8);
    due("9 blanks anywhere", townAnswer(" h 5 @ 6 o 1 * , h 7 / 0 * "), 2);
  }

  // Promise 9, faults
  private static void townFaults() {
    String[] texts = {
      "", "   ", "H5", "5h", "h", "h ", "h0", "h00", "h100", "h1234567890123456789", "h5@", "h5@100", "h5@ 100", "h5o", "h5o4",
      "h5o12", "h5/", "h5/0", "h5,h5/1", "h5,h5/8", "h5,h5/00", "h5,h5/0 0", "h5,h5/0*", "h5*,h5,h5/01*", "h5,", "h5, ",
      ",h5", "h5,,h5", "h5 5", "h5@1 2", "h5o1@3", "h5/0@3", "h5**", "h5*o1", "h5;", "h5@@3", "h5oo1", "h-5", "h5@-1",
      "h1,h1,h1,h1,h1,h1,h1,h1,h1", "h1,h1,h1,h1,h1,h1,h1,h1,", "h99999999999999999999x", "h5@4294967296", "x5,h0"
    };
    int[] places = {
      0, 3, 0, 0, 1, 2, 1, 1, 1, 1, 3, 3, 4, 3, 3,
      4, 3, 3, 6, 6, 7, 8, 7, 12, 3, 4,
      0, 3, 3, 5, 4, 3, 3, 3, 2, 3, 3, 1, 3,
      23, 23, 1, 3, 0
    };
    for (int i = 0; i < texts.length; i++) due("9 fault of '" + texts[i] + "'", townAnswer(texts[i]), -20 - places[i]);
    due("9 yards 99", townAnswer("h99"), 1);
    due("9 place 99", townAnswer("h1@99"), 1);
    due("9 noughts ahead", townAnswer("h001@000"), 1);
  }

  // Promise 10
  private static void people() {
    DownAsUp x = townOf("h1*,h1,h1,h1,h1,h1,h1,h1*");
    x.person(1);
    String[] texts = {"", " ", "8", "9", "a", "00", "0 0", "0,", "0, ", ",0", "0;", "0,1,2,3,4", "0,1,2,3,", "018"};
    int[] places = {0, 1, 0, 0, 0, 1, 2, 2, 3, 0, 1, 7, 7, 2};
    for (int i = 0; i < texts.length; i++) {
      type(x, texts[i]);
      due("10 fault of '" + texts[i] + "'", x.people(), -20 - places[i]);
      due("10 those told stay", x.count(3), 1);
    }
    type(x, "7, 1 0 ,3,76543210");
    due("10 people", x.people(), 4);
    due("10 who is sheltered", x.count(5), 1 + 2 + 8);
    due("10 FULL then", x.person(1), FULL);
    due("10 empty then", x.type('0', 1), 1);
    due("10 in place of those told", x.people(), 1);
    due("10 one", x.count(3), 1);
    DownAsUp none = new DownAsUp();
    none.type('0', 1);
    due("10 no parts", none.people(), -20);
    DownAsUp two = townOf("h1,h1");
    two.type('2', 1);
    due("10 of parts that there are", two.people(), -20);
  }

  // Promise 11
  private static void count() {
    DownAsUp x = townOf("h10*,b20,c30*,r40/0*");
    x.person(2);
    x.person(8);
    x.set(0, 17);
    int[] due = {4, 13, 17, 2, 80, 2};
    for (int what = 0; what < 6; what++) due("11 count(" + what + ")", x.count(what), due[what]);
    for (int what : new int[] {-1, 6, MAX, MIN}) due("11 what", x.count(what), BAD);
  }

  // Promise 12
  private static void may() {
    DownAsUp x = townOf("h10*,b20*,c30,r41*,h19,c7*");
    due("12 nothing", x.may(0, 0), 1);
    due("12 goes and does not stand", x.may(4, 0), BAD);
    due("12 comes and stands", x.may(0, 1), BAD);
    due("12 no such part", x.may(64, 0), BAD);
    due("12 no such part", x.may(0, 64), BAD);
    due("12 below 0", x.may(-1, 0), BAD);
    due("12 below 0", x.may(0, MIN), BAD);
    due("12 a barn gives one less: 19 for 19", x.may(2, 16), 1);
    due("12 a house gives all: 10 for 19", x.may(1, 16), 0);
    x.set(0, 9);
    due("12 and 9 free", x.may(1, 16), 1);
    x.set(0, 8);
    due("12 and 8 free", x.may(1, 16), 0);
    x.set(0, 0);
    due("12 a ruin gives half, cut: 20 for 19", x.may(8, 16), 1);
    due("12 a cellar that comes gives", x.may(0, 4), 1);
    due("12 30 for 19", x.may(0, 20), 1);
    due("12 a cellar that goes takes", x.may(32, 0), 0);
    due("12 10 for 7", x.may(33, 0), 1);
    x.set(0, 7);
    due("12 7 free for 7", x.may(32, 0), 1);
    x.set(1, 41);
    due("12 work just enough", x.may(8, 0), 1);
    due("12 work too little", x.may(8, 16), 0);
    x.set(1, 60);
    due("12 work just enough for both", x.may(8, 16), 1);
    DownAsUp barn = townOf("b20*,h20,r41*,h21");
    due("12 a barn of 20 is not 20", barn.may(1, 2), 0);
    due("12 a ruin of 41 is not 21", barn.may(4, 8), 0);
    due("12 a barn of 20 and a ruin of 41 are 39", barn.may(5, 2), 1);
    DownAsUp least = townOf("b1*,r1*");
    due("12 they give nothing, and may go", least.may(3, 0), 1);
  }

  // Promise 12, what rests and who is sheltered
  private static void mayRestsAndShelter() {
    DownAsUp x = townOf("h5*,h5/0*,h5,h5/2");
    due("12 what bears may not go", x.may(1, 0), 0);
    due("12 both may go", x.may(3, 0), 1);
    due("12 what rests comes with what bears", x.may(3, 12), 1);
    due("12 not without it", x.may(3, 8), 0);
    x.person(5);
    due("12 one that goes and one that comes do not shelter", x.may(3, 4), 0);
    due("12 one stays", x.may(2, 4), 1);
    x.set(0, 99);
    due("12 nobody in the rain", x.may(3, 0), 0);
    due("12 one more comes", x.may(0, 4), 1);
    x.stand(0);
    due("12 in the rain ahead of it", x.may(0, 4), 0);
    due("12 even if nothing is done", x.may(0, 0), 0);
    x.stand(5);
    due("12 the other stays", x.may(1, 0), 1);
    x.person(1);
    due("12 each of them", x.may(1, 0), 0);
  }

  // Promise 13
  private static void week() {
    DownAsUp x = townOf("h10*,b20*,c30,r41*,h19,c7*");
    due("13 BAD", x.week(4, 0), BAD);
    due("13 BAD", x.week(0, 1), BAD);
    due("13 NOT", x.week(1, 16), NOT);
    due("13 nothing changed", x.count(1), 43);
    due("13 barn for house", x.week(2, 16), 0);
    due("13 stands", x.count(1), 57);
    due("13 house and ruin", x.week(9, 0), 30);
    due("13 cellar comes", x.week(0, 4), 60);
    due("13 cellar goes", x.week(32, 0), 53);
    due("13 stands", x.count(1), 20);
    due("13 FREE", x.count(2), 53);
    due("13 nothing is done", x.week(0, 0), 53);
    x.set(0, 990);
    due("13 999 at most", x.week(16, 0), 999);
  }

  // Promise 14
  private static void can() {
    DownAsUp x = townOf("h10*,h10*,h10,h20");
    x.want(3);
    due("14 it is so now", x.can(-1), 0);
    due("14 there is no first", x.can(0), NONE);
    due("14 BAD", x.can(-2), BAD);
    due("14 BAD", x.can(256), BAD);
    due("14 BAD", x.can(MIN), BAD);
    due("14 BAD", x.can(MAX), BAD);
    due("14 255 is an i", x.can(255), NONE);
    x.want(8);
    due("14 in one", x.can(-1), 1);
    due("14 the set behind it", x.can(0), 8);
    x.set(1, 30);
    due("14 in two, for work", x.can(-1), 2);
    due("14 its first set", x.can(0), 0);
    due("14 its last set", x.can(1), 8);
    due("14 no third", x.can(2), NONE);
    x.want(12);
    due("14 not enough yards", x.can(-1), NONE);
    due("14 nor its first set", x.can(0), NONE);
    due("14 but BAD is BAD", x.can(256), BAD);
    x.want(8);
    x.set(1, 19);
    due("14 work too little for one", x.can(-1), NONE);
    DownAsUp y = townOf("h1,h1/0");
    y.want(2);
    due("14 a town that can't stand", y.can(-1), NONE);
    y.set(0, 99);
    due("14 not by yards either", y.can(-1), NONE);
    DownAsUp wet = townOf("h5*,h5");
    wet.person(2);
    wet.want(1);
    due("14 so now, even in the rain", wet.can(-1), 0);
    wet.want(0);
    due("14 no week is lawful in the rain", wet.can(-1), NONE);
  }

  // Promise 14, the first of the shortest ways
  private static void canFirstOfWays() {
    DownAsUp x = townOf("h6*,h6*,h6*,h6,h6,h6");
    x.set(1, 12);
    x.want(56);
    due("14 three weeks, two parts each", x.can(-1), 3);
    due("14 the least set first: two go", x.can(0), 1);
    due("14 then one down, one up", x.can(1), 8);
    due("14 then it is had", x.can(2), 56);
    x.person(1 + 2 + 8);
    due("14 one of these must stay all the while", x.can(0), 1);
    x.person(2 + 4 + 16);
    due("14 now two can't go", x.can(-1), 3);
    due("14 the least that leaves one of 1, 2", x.can(0), 2);
    due("14 then the one that shelters both stays", x.can(1), 2 + 8 + 16);
    DownAsUp y = townOf("h6*,h6,h6*,h6");
    y.person(5);
    y.person(10 + 1);
    y.set(1, 12);
    y.want(10);
    due("14 nobody would be in the rain between, but never without a part that stays", y.can(-1), NONE);
    DownAsUp z = townOf("h6*,h6,h6*,h6");
    z.person(7);
    z.set(1, 12);
    z.want(2);
    due("14 two weeks", z.can(-1), 2);
    due("14 its first set", z.can(0), 2 + 1);
    due("14 its second set", z.can(1), 2);
    z.week(4, 2);
    due("14 from then on", z.can(-1), 1);
    DownAsUp cap = townOf("h60*,h70*,c99*,h1");
    cap.set(0, 990);
    cap.set(1, 100);
    cap.want(8);
    due("14 three weeks with more than 999 between", cap.can(-1), 3);
    due("14 its first set", cap.can(0), 3);
    due("14 its second set", cap.can(1), 1);
  }

  // Promise 15
  private static void more() {
    DownAsUp x = townOf("h10*,h10*,h10,h20");
    x.want(3);
    due("15 so now", x.more(), 0);
    x.want(12);
    due("15 ten more", x.more(), 10);
    x.set(0, 4);
    due("15 six more", x.more(), 6);
    x.set(0, 10);
    due("15 none more", x.more(), 0);
    x.set(1, 19);
    due("15 not by 999", x.more(), NONE);
    DownAsUp y = townOf("h1,h1/0");
    y.want(2);
    due("15 can't stand", y.more(), NONE);
    DownAsUp big = townOf("h99,h99,h99,h99,h99,h99,h99,h99");
    big.want(255);
    big.set(1, 999);
    due("15 all of 792", big.more(), 792);
    big.set(0, 791);
    due("15 the last one", big.more(), 1);
    big.set(0, 0);
    big.set(1, 99);
    due("15 over several weeks too", big.more(), 792);
    DownAsUp kept = townOf("h10*,h30");
    kept.person(3);
    kept.want(2);
    due("15 the old one must stay till the new one stands", kept.more(), 30);
  }

  // Promise 16
  private static void carry() {
    DownAsUp x = townOf("h30@5*,b20@40*,c10@7*,h25@10,r41@90*,h19@60,c50@3");
    due("16 BAD", x.carry(8, 0), BAD);
    due("16 BAD", x.carry(0, 1), BAD);
    due("16 BAD", x.carry(-1, 0), BAD);
    due("16 nothing comes", x.carry(1, 0), 0);
    due("16 nothing at all", x.carry(0, 0), 0);
    due("16 25 by 5", x.carry(1, 8), 125);
    due("16 not enough", x.carry(0, 8), NONE);
    due("16 a barn gives 19", x.carry(2, 8), NONE);
    due("16 19 by 20", x.carry(2, 32), 380);
    due("16 a ruin gives 20: 19 by 30", x.carry(16, 32), 570);
    due("16 the nearest first: 25 by 5 and 19 by 20", x.carry(19, 40), 125 + 380);
    due("16 cellars give nothing", x.carry(0, 72), NONE);
    due("16 cellars need nothing", x.carry(0, 64), 0);
    due("16 nor as they go", x.carry(4, 0), 0);
    x.set(0, 25);
    due("16 FREE lies at place 0", x.carry(0, 8), 250);
    due("16 what is nearer than FREE", x.carry(1, 8), 125);
    due("16 of 30, 5 are left for 60, the rest from 40 cost less", x.carry(3, 40), 125 + 380);
    // The heap at 10 is nearest to both sites; it serves the one whose other heap is farther away.
    DownAsUp y = townOf("h10@10*,h10@40*,h10@9,h10@12");
    due("16 least together, not each by itself", y.carry(3, 12), 10 + 280);
    y.set(0, 10);
    due("16 with FREE at 0: 9 from 0, 12 from 10", y.carry(3, 12), 90 + 20);
    DownAsUp eight = townOf("h1@1*,h1@2*,h1@3*,h1@4*,h1@5*,h1@6*,h1@7*,h1@8*");
    due("16 all eight go", eight.carry(255, 0), 0);
    eight.stand(0);
    due("16 all eight come, not enough", eight.carry(0, 255), NONE);
    eight.set(0, 8);
    due("16 all eight come", eight.carry(0, 255), 36);
    DownAsUp same = townOf("h9@50*,h9@50");
    due("16 in place", same.carry(1, 2), 0);
    DownAsUp rests = townOf("h9@50*,h1/0*,h9@60");
    due("16 lawful or not", rests.carry(1, 4), 90);
    due("16 that one is not", rests.may(1, 4), 0);
  }

  // Promise 17
  private static void build() {
    DownAsUp x = townOf("h10*,h20*,h30*,h10,h20,h30");
    due("17 builder", x.build(-1, 1), BAD);
    due("17 builder", x.build(4, 1), BAD);
    due("17 n", x.build(0, 0), BAD);
    due("17 n", x.build(0, 61), BAD);
    x.want(7);
    due("17 he rests at once", x.build(0, 60), 0);
    x.want(56);
    due("17 one week", x.build(0, 1), 1);
    due("17 small for small", x.count(1), 2 + 4 + 8);
    due("17 till he rests", x.build(0, 60), 2);
    due("17 as wanted", x.count(1), 56);
    DownAsUp down = townOf("h10*,h20*");
    due("17 those that stand, alone", down.build(1, 1), 1);
    due("17 the big one", down.count(1), 1);
    due("17 its yards are free", down.count(2), 20);
    DownAsUp up = townOf("h10,h20,c5");
    up.want(7);
    up.set(0, 9);
    due("17 the others, alone: only the cellar, then a house", up.build(2, 60), 2);
    due("17 what stands", up.count(1), 5);
    due("17 FREE", up.count(2), 4);
    DownAsUp wet = townOf("h10*");
    wet.person(1);
    due("17 nobody in the rain by builders", wet.build(0, 60), 0);
  }

  // Promise 17, the orders of the four
  private static void buildOrders() {
    int[] firsts = {2, 1, 0, 3};
    for (int b = 0; b < 4; b++) {
      DownAsUp x = townOf("h20*,h30*,h10*,h20*");
      x.build(b, 1);
      due("17 first of builder " + b, x.count(1), 15 - (1 << firsts[b]));
    }
    int[] seconds = {5, 4, 4, 7};
    for (int b = 0; b < 4; b++) {
      DownAsUp x = townOf("h40*,h40*,h40*,h40*,h20,h10,h20,h10");
      x.want(240);
      x.build(b, 1);
      int first = b % 2 == 0 ? 0 : 3;
      int second = b == 1 ? 6 : seconds[b];
      due("17 first two of builder " + b, x.count(1), 15 - (1 << first) + (1 << second));
    }
    DownAsUp pair = townOf("h10*,h10*,h30,h10");
    pair.want(12);
    due("17 each with each of the others", pair.build(2, 1), 1);
    due("17 the first with the second of them", pair.count(1), 2 + 8);
  }

  // Promise 18
  private static void worth() {
    DownAsUp x = townOf("h10o0*,h10o1*,h20o2");
    due("18 owner", x.worth(-1, 0), BAD);
    due("18 owner", x.worth(4, 0), BAD);
    due("18 part", x.worth(0, -1), BAD);
    due("18 part", x.worth(0, 2), BAD);
    x.want(4);
    int[][] thirds = {{1, 3}, {1, 3}, {1, 3}, {0, 1}};
    shares("18 three are needed", x, thirds);
    x.want(3);
    shares("18 so now: nobody turns it", x, new int[][] {{0, 1}, {0, 1}, {0, 1}, {0, 1}});
    x.want(7);
    shares("18 never: nobody turns it", x, new int[][] {{0, 1}, {0, 1}, {0, 1}, {0, 1}});
    DownAsUp y = townOf("h10o0,c10o1,c10o2");
    y.want(1);
    shares("18 his and one of two cellars, which may not go again", y, new int[][] {{0, 1}, {0, 1}, {0, 1}, {0, 1}});
    DownAsUp z = townOf("h10o0,h9o0*,h1o1*,h1o3*");
    z.want(9);
    shares("18 both", z, new int[][] {{1, 2}, {1, 2}, {0, 1}, {0, 1}});
    DownAsUp one = townOf("h10o2*");
    shares("18 one alone", one, new int[][] {{0, 1}, {0, 1}, {1, 1}, {0, 1}});
    DownAsUp two = townOf("h10o0,b11o1*,b11o2*,h2o0*");
    two.want(1 + 2);
    shares("18 his new house and the barn that is not wanted", two, new int[][] {{1, 2}, {0, 1}, {1, 2}, {0, 1}});
    // Somebody is sheltered by the old house or by the new one of owner 0, so that it takes ten yards in between: those of
    // houses of others, which go for a while and come again.
    DownAsUp each = lent(10, 10, 10);
    due("18 by way of another's house", each.can(-1), 2);
    shares("18 each of three can lend", each, new int[][] {{3, 4}, {1, 12}, {1, 12}, {1, 12}});
    shares("18 one can lend, or two others together", lent(10, 5, 5), new int[][] {{7, 12}, {1, 4}, {1, 12}, {1, 12}});
    shares("18 one with either of two others", lent(7, 3, 3), new int[][] {{5, 12}, {5, 12}, {1, 12}, {1, 12}});
    shares("18 two of three", lent(5, 5, 5), new int[][] {{1, 2}, {1, 6}, {1, 6}, {1, 6}});
    shares("18 either of two", lent(10, 10, 1), new int[][] {{2, 3}, {1, 6}, {1, 6}, {0, 1}});
    shares("18 all three", lent(4, 4, 2), new int[][] {{1, 4}, {1, 4}, {1, 4}, {1, 4}});
    shares("18 not even all", lent(4, 4, 1), new int[][] {{0, 1}, {0, 1}, {0, 1}, {0, 1}});
  }

  private static DownAsUp lent(int yardsOf1, int yardsOf2, int yardsOf3) {
    DownAsUp x = townOf("h10o0*,h10o0,h" + yardsOf1 + "o1*,h" + yardsOf2 + "o2*,h" + yardsOf3 + "o3*");
    x.person(3);
    x.want(30);
    return x;
  }

  private static void shares(String what, DownAsUp x, int[][] due) {
    for (int o = 0; o < 4; o++) {
      due(what + ", above, of " + o, x.worth(o, 0), due[o][0]);
      due(what + ", below, of " + o, x.worth(o, 1), due[o][1]);
    }
  }

  // Promises 19 and 20
  private static void imageAndRestore() {
    DownAsUp x = townOf("h10*,b20/0,c5");
    x.person(3);
    x.set(0, 6);
    x.set(1, 66);
    x.want(5);
    due("20 none yet", x.restore(), NONE);
    x.sheet(0, 1, 5);
    type(x, "h");
    due("19 image", x.image(), 1);
    type(x, "7*");
    x.sheet(0, 2, 7);
    due("19 the tape goes on", x.town(), 1);
    type(x, "r3");
    x.set(0, 1);
    x.set(1, 1);
    x.want(1);
    due("20 restore", x.restore(), 1);
    due("20 parts", x.count(0), 3);
    due("20 what stands", x.count(1), 1);
    due("20 FREE", x.count(2), 6);
    due("20 people", x.count(3), 1);
    due("20 a person's shelter", x.count(5), 1);
    due("20 WORK", x.set(1, 67), 66);
    due("20 want", x.want(1), 5);
    int[] told = {1, 20, 0, 0, 1, 0};
    for (int what = 0; what < 6; what++) due("20 told", x.told(1, what), told[what]);
    due("20 sheets stay", x.drop(0), 7);
    x.week(0, 4);
    due("20 as often as wanted", x.restore(), 1);
    due("20 what stands", x.count(1), 1);
    due("20 the tape stays", x.town(), 1);
    due("20 it was r3", x.told(0, 0), 3);
    x.image();
    x.part(0, 1, 1, 1, 1);
    x.restore();
    due("19 the newest image", x.count(0), 1);
  }

  private static DownAsUp book(int lane, long... items) {
    DownAsUp x = townOf("h10*,h10*,h10,h20");
    x.sheet(0, lane, 24);
    for (int i = 0; i < items.length; i++) x.item(0, lane, i, items[i]);
    return x;
  }

  // Promise 21
  private static void judged() {
    for (int lane = 0; lane < 3; lane++) {
      DownAsUp x = book(lane, 1, 4, 2, 0, 4, 8, 0, 2);
      due("21 all lawful", x.judged(0, lane, 0, 3), NONE);
      due("21 the last is not", x.judged(0, lane, 0, 4), 3);
      due("21 from two on", x.judged(0, lane, 2, 2), 1);
      due("21 nothing changed", x.count(1), 3);
      due("21 FREE is the same", x.count(2), 0);
      due("21 another lane", x.judged(0, (lane + 1) % 3, 0, 1), CAST);
      due("21 no sheet", x.judged(1, lane, 0, 1), NULL);
      due("21 no such sheet", x.judged(4, lane, 0, 1), BAD);
      due("21 no such sheet", x.judged(-1, lane, 0, 1), BAD);
      due("21 no such lane", x.judged(0, 3, 0, 1), BAD);
      due("21 no such lane", x.judged(1, -1, 0, 1), BAD);
      due("21 n 0", x.judged(1, lane, 0, 0), BAD);
      due("21 n 9", x.judged(0, lane, 0, 9), BAD);
      due("21 eight", x.judged(0, lane, 8, 8), NONE);
      due("21 one too far", x.judged(0, lane, 9, 8), INDEX);
      due("21 below 0", x.judged(0, lane, -1, 1), INDEX);
      due("21 far", x.judged(0, lane, MAX, 8), INDEX);
      due("21 far below", x.judged(0, lane, MIN, 8), INDEX);
      due("21 CAST ahead of INDEX", x.judged(0, (lane + 2) % 3, -1, 1), CAST);
    }
    due("21 BAD is not lawful", book(1, 0, 0, 4, 0).judged(0, 1, 0, 2), 1);
    due("21 below 0", book(1, -1, 0).judged(0, 1, 0, 1), 0);
    due("21 no such part", book(0, 0, 16).judged(0, 0, 0, 1), 0);
    due("21 a long is not its lowest bits", book(2, 1L << 32 | 1, 4).judged(0, 2, 0, 1), 0);
    due("21 an int is cut as it comes", book(1, 1L << 32 | 1, 4).judged(0, 1, 0, 1), NONE);
    due("21 a short is cut as it comes", book(0, 1L << 16 | 1, 4).judged(0, 0, 0, 1), NONE);
  }

  // Promise 22
  private static void wrongLines() {
    DownAsUp x = book(1, 1, 4, 2, 0, 0, 8);
    due("22 the third can't be", x.wrong(0, 1, 0, 3, 4), 4);
    due("22 none makes it 12", x.wrong(0, 1, 0, 3, 12), 0);
    due("22 two lines: either", x.wrong(0, 1, 0, 2, 4), 0);
    due("22 without the second", x.wrong(0, 1, 0, 2, 6), 2);
    due("22 without the first", x.wrong(0, 1, 0, 2, 1), 1);
    due("22 one line, left out", x.wrong(0, 1, 0, 1, 3), 1);
    due("22 one line, left out", x.wrong(0, 1, 0, 1, 6), 0);
    due("22 nothing changed", x.count(1), 3);
    due("22 empty lines: each", book(1).wrong(0, 1, 0, 8, 3), 255);
    due("22 one is BAD", book(1, 1, 4, 64, 0, 2, 0).wrong(0, 1, 0, 3, 4), 2);
    due("22 two are BAD", book(1, 1, 4, 64, 0, -2, 0).wrong(0, 1, 0, 3, 6), 0);
    due("22 stood", x.wrong(0, 1, 0, 1, 16), BAD);
    due("22 stood", x.wrong(0, 1, 0, 1, -1), BAD);
    due("22 BAD ahead of NULL", x.wrong(1, 1, 0, 1, 16), BAD);
    due("22 n 0", x.wrong(0, 1, 0, 0, 3), BAD);
    due("22 n 9", x.wrong(0, 1, 0, 9, 3), BAD);
    due("22 sheet", x.wrong(4, 1, 0, 1, 3), BAD);
    due("22 lane", x.wrong(0, 3, 0, 1, 3), BAD);
    due("22 NULL", x.wrong(1, 1, 99, 1, 3), NULL);
    due("22 CAST", x.wrong(0, 2, 99, 1, 3), CAST);
    due("22 INDEX", x.wrong(0, 1, 23, 1, 3), INDEX);
    due("22 INDEX", x.wrong(0, 1, MAX, 8, 3), INDEX);
    due("22 to the end", x.wrong(0, 1, 22, 1, 3), 1);
  }

  // Promise 23
  private static void sheet() {
    DownAsUp x = new DownAsUp();
    due("23 sheet 4", x.sheet(4, 0, 1), BAD);
    due("23 sheet -1", x.sheet(-1, 0, 1), BAD);
    due("23 lane 3", x.sheet(0, 3, 1), BAD);
    due("23 lane -1", x.sheet(0, -1, 1), BAD);
    due("23 n 25", x.sheet(0, 0, 25), BAD);
    due("23 n MAX", x.sheet(0, 0, MAX), BAD);
    due("23 SIZE", x.sheet(0, 0, -1), SIZE);
    due("23 SIZE", x.sheet(0, 0, MIN), SIZE);
    due("23 BAD ahead of SIZE", x.sheet(4, 0, -1), BAD);
    due("23 still nothing", x.drop(0), NULL);
    due("23 none", x.sheet(3, 2, 0), 0);
    due("23 24", x.sheet(0, 0, 24), 24);
    due("23 a refusal changes nothing", x.sheet(0, 0, -1), SIZE);
    due("23 it has 24", x.drop(0), 24);
    DownAsUp y = book(1, 99, 99);
    due("23 items told", y.judged(0, 1, 0, 1), 0);
    y.sheet(0, 1, 24);
    due("23 a new row is of noughts", y.judged(0, 1, 0, 1), NONE);
  }

  // Promise 24
  private static void drop() {
    DownAsUp x = new DownAsUp();
    due("24 BAD", x.drop(-1), BAD);
    due("24 BAD", x.drop(4), BAD);
    due("24 NULL", x.drop(3), NULL);
    x.sheet(3, 1, 0);
    due("24 a row of none", x.drop(3), 0);
    due("24 nothing then", x.drop(3), NULL);
    x.sheet(2, 2, 9);
    due("24 nine", x.drop(2), 9);
    due("24 nothing then", x.item(2, 2, 0, 1), NULL);
  }

  // Promise 25
  private static void item() {
    DownAsUp x = townOf("h10*,h10*,h10,h20");
    x.sheet(1, 0, 3);
    due("25 sheet", x.item(4, 0, 0, 1), BAD);
    due("25 lane", x.item(1, 3, 0, 1), BAD);
    due("25 NULL ahead of INDEX", x.item(0, 0, 99, 1), NULL);
    due("25 CAST ahead of INDEX", x.item(1, 1, 99, 1), CAST);
    due("25 INDEX", x.item(1, 0, 3, 1), INDEX);
    due("25 INDEX", x.item(1, 0, -1, 1), INDEX);
    due("25 INDEX", x.item(1, 0, MAX, 1), INDEX);
    due("25 item", x.item(1, 0, 2, Long.MIN_VALUE), 1);
    due("25 lowest bits of 65538 are 2", x.item(1, 0, 0, 65538), 1);
    due("25 and go lawfully", x.judged(1, 0, 0, 1), NONE);
    due("25 32768 is below 0 as a short", x.item(1, 0, 0, 32768), 1);
    due("25 and is BAD", x.judged(1, 0, 0, 1), 0);
    x.sheet(2, 2, 2);
    x.item(2, 2, 0, 65538);
    due("25 a long holds all", x.judged(2, 2, 0, 1), 0);
  }

  // Promise 26
  private static void film() {
    DownAsUp x = townOf("h6*,h6*,h6*,h6,h6,h6");
    x.set(1, 12);
    x.want(56);
    due("26 sheet", x.film(4, 0, 0), BAD);
    due("26 lane", x.film(0, 3, 0), BAD);
    due("26 NULL", x.film(0, 0, 99), NULL);
    x.sheet(0, 0, 4);
    due("26 CAST", x.film(0, 1, 99), CAST);
    due("26 INDEX", x.film(0, 0, 2), INDEX);
    due("26 INDEX", x.film(0, 0, -1), INDEX);
    due("26 INDEX", x.film(0, 0, MAX), INDEX);
    due("26 three", x.film(0, 0, 1), 3);
    // The sets 1, 8, 56 are read back as weeks: of a town of six, from one in which just those stand that should go.
    int[] sets = {1, 8, 56};
    for (int i = 0; i < 3; i++) {
      x.stand(sets[i]);
      x.sheet(1, 0, 2);
      due("26 taken over", x.copy(0, 1 + i, 1, 0, 1), 1);
      x.set(1, 999);
      due("26 just what stands goes", x.judged(1, 0, 0, 1), NONE);
      x.stand(sets[i] & (sets[i] - 1));
      due("26 and no other set", x.judged(1, 0, 0, 1), 0);
    }
    x.set(1, 12);
    x.stand(0);
    due("26 NONE", x.film(0, 0, 0), NONE);
    due("26 NONE ahead of NULL", x.film(3, 0, 0), NONE);
    due("26 BAD ahead of NONE", x.film(4, 0, 0), BAD);
    x.want(0);
    due("26 no weeks", x.film(0, 0, 4), 0);
    due("26 no weeks, too far", x.film(0, 0, 5), INDEX);
    due("26 no weeks, no sheet", x.film(3, 0, 0), NULL);
  }

  // Promise 27
  private static void copy() {
    DownAsUp x = book(1, 1, 4, 64, 64, 2, 0);
    due("27 from", x.copy(4, 0, 0, 0, 1), BAD);
    due("27 to", x.copy(0, 0, -1, 0, 1), BAD);
    due("27 NULL, to", x.copy(0, 0, 1, 99, 1), NULL);
    due("27 NULL, from", x.copy(1, 99, 0, 0, 1), NULL);
    x.sheet(1, 0, 3);
    due("27 CAST, even of none", x.copy(0, 0, 1, 0, 0), CAST);
    x.sheet(1, 1, 4);
    due("27 i", x.copy(0, -1, 1, 0, 1), INDEX);
    due("27 j", x.copy(0, 0, 1, -1, 1), INDEX);
    due("27 n", x.copy(0, 0, 1, 0, -1), INDEX);
    due("27 n", x.copy(0, 0, 1, 0, MIN), INDEX);
    due("27 i + n", x.copy(0, 22, 1, 0, 3), INDEX);
    due("27 j + n", x.copy(0, 0, 1, 2, 3), INDEX);
    due("27 far", x.copy(0, MAX, 1, 0, 1), INDEX);
    due("27 far", x.copy(0, 0, 1, 0, MAX), INDEX);
    due("27 none, at the ends", x.copy(0, 24, 1, 4, 0), 0);
    due("27 none, behind the end", x.copy(0, 25, 1, 4, 0), INDEX);
    due("27 two", x.copy(0, 0, 1, 0, 2), 2);
    due("27 two more", x.copy(0, 4, 1, 2, 2), 2);
    due("27 the book without its bad line", x.judged(1, 1, 0, 2), NONE);
    due("27 the first stays", x.judged(0, 1, 0, 3), 1);
    DownAsUp y = book(1, 0, 0, 1, 4, 2, 0, 99, 99);
    due("27 up in the same one, as if all were taken ahead", y.copy(0, 0, 0, 2, 8), 8);
    due("27 as if all were taken ahead", y.judged(0, 1, 2, 4), 3);
    due("27 down in the same one", y.copy(0, 2, 0, 0, 8), 8);
    due("27 as it was", y.judged(0, 1, 0, 4), 3);
    due("27 onto itself", y.copy(0, 3, 0, 3, 9), 9);
  }
}
