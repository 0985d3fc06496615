/** The edges of block 1 but for texts: each sentence about parts, people, FREE and WORK that names a boundary. */
public final class PartsEdgesTest extends Kit {
  private static final int[] FAR = {MIN, MIN + 1, -65536, -256, -100, -2, 65536, 1 << 30, MAX - 1, MAX};

  public static void main(String[] args) {
    nothingAtFirst();
    objectsAreApart();
    kindsOfParts();
    yardsOfParts();
    placesOfParts();
    ownersOfParts();
    partsThatThereAre();
    eightParts();
    newPartsDoNotStand();
    toldOfWhat();
    toldOfPart();
    standNothingAndAll();
    standNot();
    personSets();
    fourPeople();
    freeYards();
    work();
    setWhat();
    wantedSets();
    countOfWhat();
    countAsMuchAsThereMayBe();
    countSheltered();
    end();
  }

  // "No parts, nobody.", "FREE yards (0 at first)", "WORK (200 at first)", "THE WANTED TOWN (at first the empty one)"
  private static void nothingAtFirst() {
    DownAsUp x = new DownAsUp();
    for (int what = 0; what < 6; what++) due("1 count(" + what + ") of nothing", x.count(what), 0);
    for (int what = 0; what < 6; what++) due("1 told(0, " + what + ") of nothing", x.told(0, what), BAD);
    due("1 nothing stood", x.stand(0), 0);
    due("1 nothing was wanted", x.want(0), 0);
    due("1 no part can stand", x.stand(1), BAD);
    due("1 no part can be wanted", x.want(1), BAD);
    due("1 nobody without parts", x.person(0), BAD);
    due("1 nobody without parts", x.person(1), BAD);
    due("1 a week of nothing is lawful", x.may(0, 0), 1);
    due("1 a week of nothing", x.week(0, 0), 0);
    due("1 nothing to go", x.may(1, 0), BAD);
    due("1 nothing to come", x.may(0, 1), BAD);
    due("1 nothing to go", x.week(1, 0), BAD);
    due("1 nothing to carry", x.carry(0, 0), 0);
    due("1 nothing to carry", x.carry(0, 1), BAD);
    due("1 it is so now", x.can(-1), 0);
    due("1 by no week", x.can(0), NONE);
    due("1 no yard more", x.more(), 0);
    for (int b = 0; b < 4; b++) due("1 builder " + b + " rests", x.build(b, 60), 0);
    for (int o = 0; o < 4; o++) due("1 worth above of " + o, x.worth(o, 0), 0);
    for (int o = 0; o < 4; o++) due("1 worth below of " + o, x.worth(o, 1), 1);
    due("1 no image", x.restore(), NONE);
    for (int s = 0; s < 4; s++) due("1 sheet " + s + " is nothing", x.drop(s), NULL);
    due("1 an empty tape is no town", x.town(), -20);
    due("1 an empty tape is nobody", x.people(), -20);
    due("1 the tape is empty", x.type(' ', 1), 1);
    due("1 FREE at first", x.set(0, 0), 0);
    due("1 WORK at first", x.set(1, 200), 200);
  }

  // "A new object": what one is told is nothing to another.
  private static void objectsAreApart() {
    DownAsUp x = new DownAsUp(), y = new DownAsUp();
    x.part(0, 5, 0, 0, 0);
    x.stand(1);
    x.person(1);
    x.want(1);
    x.set(0, 9);
    x.set(1, 9);
    x.type('h', 1);
    x.sheet(0, 0, 5);
    x.image();
    for (int what = 0; what < 6; what++) due("1 count(" + what + ") of another", y.count(what), 0);
    due("1 WORK of another", y.set(1, 200), 200);
    due("1 want of another", y.want(0), 0);
    due("1 sheet of another", y.drop(0), NULL);
    due("1 image of another", y.restore(), NONE);
    due("1 tape of another", y.type('h', 1), 1);
  }

  // "are of a KIND": 0 .. 3
  private static void kindsOfParts() {
    DownAsUp x = new DownAsUp();
    due("2 KIND -1", x.part(-1, 1, 0, 0, 0), BAD);
    due("2 KIND 4", x.part(4, 1, 0, 0, 0), BAD);
    for (int v : FAR) due("2 KIND " + v, x.part(v, 1, 0, 0, 0), BAD);
    due("2 none came", x.count(0), 0);
    for (int kind = 0; kind < 4; kind++) due("2 KIND " + kind, x.part(kind, 1, 0, 0, 0), kind);
    for (int kind = 0; kind < 4; kind++) due("2 KIND told", x.told(kind, 0), kind);
  }

  // "have YARDS (1 .. 99)"
  private static void yardsOfParts() {
    DownAsUp x = new DownAsUp();
    for (int v : new int[] {-1, 0, 100, 101, 257, 65537}) due("2 YARDS " + v, x.part(0, v, 0, 0, 0), BAD);
    for (int v : FAR) due("2 YARDS " + v, x.part(0, v, 0, 0, 0), BAD);
    due("2 none came", x.count(0), 0);
    int[] taken = {1, 2, 98, 99};
    for (int i = 0; i < 4; i++) due("2 YARDS " + taken[i], x.part(0, taken[i], 0, 0, 0), i);
    for (int i = 0; i < 4; i++) due("2 YARDS told", x.told(i, 1), taken[i]);
  }

  // "a PLACE (0 .. 99)"
  private static void placesOfParts() {
    DownAsUp x = new DownAsUp();
    for (int v : new int[] {-1, 100, 101, 256}) due("2 PLACE " + v, x.part(0, 1, v, 0, 0), BAD);
    for (int v : FAR) due("2 PLACE " + v, x.part(0, 1, v, 0, 0), BAD);
    due("2 none came", x.count(0), 0);
    int[] taken = {0, 1, 98, 99};
    for (int i = 0; i < 4; i++) due("2 PLACE " + taken[i], x.part(0, 1, taken[i], 0, 0), i);
    for (int i = 0; i < 4; i++) due("2 PLACE told", x.told(i, 2), taken[i]);
  }

  // "an OWNER (0 .. 3)"
  private static void ownersOfParts() {
    DownAsUp x = new DownAsUp();
    due("2 OWNER -1", x.part(0, 1, 0, -1, 0), BAD);
    due("2 OWNER 4", x.part(0, 1, 0, 4, 0), BAD);
    for (int v : FAR) due("2 OWNER " + v, x.part(0, 1, 0, v, 0), BAD);
    due("2 none came", x.count(0), 0);
    for (int owner = 0; owner < 4; owner++) due("2 OWNER " + owner, x.part(0, 1, 0, owner, 0), owner);
    for (int owner = 0; owner < 4; owner++) due("2 OWNER told", x.told(owner, 3), owner);
  }

  // "A part RESTS on a set of other parts of lesser number", "BAD (rests: of parts there are)"
  private static void partsThatThereAre() {
    DownAsUp x = new DownAsUp();
    for (int i = 0; i < 8; i++) {
      int itself = 1 << i;
      due("2 part " + i + " on itself", x.part(0, 1, 0, 0, itself), BAD);
      due("2 part " + i + " on itself and all others", x.part(0, 1, 0, 0, 2 * itself - 1), BAD);
      due("2 part " + i + " on one that comes later", x.part(0, 1, 0, 0, 2 * itself), BAD);
      due("2 part " + i + " on a set below 0", x.part(0, 1, 0, 0, -1), BAD);
      due("2 part " + i + " on the highest bit", x.part(0, 1, 0, 0, MIN), BAD);
      due("2 part " + i + " on the highest bit and one there is", x.part(0, 1, 0, 0, MIN + 1), BAD);
      due("2 part " + i + " on bit 30", x.part(0, 1, 0, 0, 1 << 30), BAD);
      due("2 part " + i + " on all there are", x.part(0, 1, 0, 0, itself - 1), i);
      due("2 what it rests on", x.told(i, 4), itself - 1);
    }
    DownAsUp y = townOf("h1,h1,h1");
    due("2 on nothing", y.part(0, 1, 0, 0, 0), 3);
    due("2 on nothing, told", y.told(3, 4), 0);
    due("2 on the last there is", y.part(0, 1, 0, 0, 8), 4);
    due("2 on the last there is, told", y.told(4, 4), 8);
  }

  // "PARTS 0 .. 7, as they come", "FULL: 8"
  private static void eightParts() {
    DownAsUp x = new DownAsUp();
    for (int i = 0; i < 8; i++) {
      due("2 its number", x.part(0, 1 + i, 0, 0, 0), i);
      due("2 how many", x.count(0), i + 1);
    }
    due("2 a ninth", x.part(0, 50, 0, 0, 0), FULL);
    due("2 a ninth that rests on all", x.part(0, 50, 0, 0, 255), FULL);
    due("2 BAD ahead of FULL: KIND", x.part(4, 50, 0, 0, 0), BAD);
    due("2 BAD ahead of FULL: YARDS", x.part(0, 100, 0, 0, 0), BAD);
    due("2 BAD ahead of FULL: PLACE", x.part(0, 50, 100, 0, 0), BAD);
    due("2 BAD ahead of FULL: OWNER", x.part(0, 50, 0, 4, 0), BAD);
    due("2 BAD ahead of FULL: rests on itself", x.part(0, 50, 0, 0, 256), BAD);
    due("2 eight stay", x.count(0), 8);
    for (int i = 0; i < 8; i++) due("2 YARDS stay", x.told(i, 1), 1 + i);
    type(x, "h1,h1,h1,h1,h1,h1,h1");
    due("2 seven by a text", x.town(), 7);
    due("2 an eighth", x.part(0, 1, 0, 0, 127), 7);
    due("2 a ninth again", x.part(0, 1, 0, 0, 0), FULL);
  }

  // "A part that does not stand", whatever stood when there were more parts.
  private static void newPartsDoNotStand() {
    DownAsUp x = townOf("h1*,h1*,h1*");
    due("2 a part more", x.part(0, 1, 0, 0, 7), 3);
    due("2 it does not stand", x.told(3, 5), 0);
    due("2 the others do", x.count(1), 7);
    type(x, "h1*");
    x.town();
    due("2 a part more", x.part(0, 1, 0, 0, 0), 1);
    due("2 it does not stand, as the second of an older town did", x.count(1), 1);
    x.person(3);
    x.want(2);
    due("2 it may stand", x.stand(2), 1);
    due("2 and shelters", x.count(5), 1);
    due("2 and is found by can()", x.can(-1), 0);
    x.part(0, 5, 0, 0, 0);
    due("2 one more leaves what is wanted", x.want(2), 2);
    due("2 one more leaves who is sheltered", x.count(5), 1);
  }

  // "Of a part: 0 KIND, 1 YARDS, 2 PLACE, 3 OWNER, 4 what it RESTS on, 5 whether it stands (1, 0). BAD."
  private static void toldOfWhat() {
    DownAsUp x = townOf("h1*,r99@98o3/0*");
    int[] all = {3, 99, 98, 3, 1, 1};
    for (int what = 0; what < 6; what++) due("3 told(1, " + what + ")", x.told(1, what), all[what]);
    due("3 told(1, -1)", x.told(1, -1), BAD);
    due("3 told(1, 6)", x.told(1, 6), BAD);
    for (int v : FAR) due("3 told(1, " + v + ")", x.told(1, v), BAD);
  }

  private static void toldOfPart() {
    DownAsUp x = new DownAsUp();
    for (int i = 0; i < 8; i++) {
      due("3 told of part " + i + " ahead of it", x.told(i, 1), BAD);
      x.part(0, 10 + i, 0, 0, 0);
      due("3 told of part " + i, x.told(i, 1), 10 + i);
    }
    due("3 told of part -1", x.told(-1, 1), BAD);
    due("3 told of part 8", x.told(8, 1), BAD);
    for (int v : FAR) due("3 told of part " + v, x.told(v, 1), BAD);
    x.stand(128);
    due("3 the last stands", x.told(7, 5), 1);
    due("3 the first does not", x.told(0, 5), 0);
  }

  // "Just these parts stand: what stood. BAD", "Sets are bits."
  private static void standNothingAndAll() {
    DownAsUp x = new DownAsUp();
    for (int parts = 0; parts <= 8; parts++) {
      int all = (1 << parts) - 1;
      due("4 all of " + parts, x.stand(all), 0);
      due("4 one beyond " + parts, x.stand(all + 1), BAD);
      due("4 all and one beyond " + parts, x.stand(2 * all + 1), BAD);
      due("4 below 0", x.stand(-1), BAD);
      due("4 the highest bit", x.stand(MIN), BAD);
      due("4 the highest bit and all", x.stand(MIN + all), BAD);
      for (int v : FAR) due("4 stand " + v, x.stand(v), BAD);
      due("4 a refusal leaves all of " + parts, x.count(1), all);
      due("4 nothing", x.stand(0), all);
      due("4 nothing again", x.stand(0), 0);
      x.part(0, 1, 0, 0, 0);
    }
  }

  // "it can stand only while all these do", "NOT: one has not all it RESTS on"
  private static void standNot() {
    DownAsUp x = townOf("h1,h1,h1/01,h1/2");
    due("4 without the first", x.stand(4 + 2), NOT);
    due("4 without the second", x.stand(4 + 1), NOT);
    due("4 without both", x.stand(4), NOT);
    due("4 with both", x.stand(4 + 3), 0);
    due("4 the one on top without what bears below", x.stand(8 + 4), NOT);
    due("4 the one on top alone", x.stand(8), NOT);
    due("4 a refusal leaves what stood", x.count(1), 7);
    due("4 all", x.stand(15), 7);
    due("4 only what bears", x.stand(3), 15);
    due("4 BAD ahead of NOT", x.stand(16 + 8), BAD);
    due("4 what stood", x.stand(0), 3);
    DownAsUp y = new DownAsUp();
    for (int i = 0; i < 8; i++) y.part(0, 1, 0, 0, i == 0 ? 0 : 1 << (i - 1));
    due("4 a tower of eight", y.stand(255), 0);
    due("4 without its foot", y.stand(254), NOT);
    due("4 without its top", y.stand(127), 255);
    due("4 its top alone", y.stand(128), NOT);
  }

  // "One of PEOPLE, with what SHELTERS: the number. BAD: also the empty set"
  private static void personSets() {
    DownAsUp x = townOf("h1,h1,h1");
    due("5 the empty set", x.person(0), BAD);
    due("5 one beyond", x.person(8), BAD);
    due("5 all and one beyond", x.person(15), BAD);
    due("5 below 0", x.person(-1), BAD);
    for (int v : FAR) due("5 person " + v, x.person(v), BAD);
    due("5 nobody came", x.count(3), 0);
    due("5 the first part alone", x.person(1), 0);
    due("5 the last part alone", x.person(4), 1);
    due("5 all parts", x.person(7), 2);
    x.stand(4);
    due("5 who is sheltered by the last part", x.count(5), 2 + 4);
    DownAsUp y = greatTown();
    due("5 all of eight", y.person(255), 0);
    due("5 one beyond eight", y.person(256), BAD);
  }

  // "PEOPLE 0 .. 3, as they come", "FULL: 4"
  private static void fourPeople() {
    DownAsUp x = townOf("h1,h1");
    for (int i = 0; i < 4; i++) {
      due("5 the number", x.person(i == 3 ? 2 : 1), i);
      due("5 how many", x.count(3), i + 1);
    }
    due("5 a fifth", x.person(3), FULL);
    due("5 BAD ahead of FULL: empty", x.person(0), BAD);
    due("5 BAD ahead of FULL: one beyond", x.person(4), BAD);
    due("5 BAD ahead of FULL: below 0", x.person(-1), BAD);
    due("5 four stay", x.count(3), 4);
    x.stand(2);
    due("5 and what shelters them", x.count(5), 8);
    type(x, "0,0,0");
    due("5 three by a text", x.people(), 3);
    due("5 a fourth", x.person(1), 3);
    due("5 a fifth again", x.person(1), FULL);
  }

  // "FREE yards (0 .. 999; 0 at first)", "FREE (0) becomes v: what it was. BAD."
  private static void freeYards() {
    DownAsUp x = new DownAsUp();
    due("6 FREE 1", x.set(0, 1), 0);
    due("6 FREE -1", x.set(0, -1), BAD);
    due("6 FREE 1000", x.set(0, 1000), BAD);
    for (int v : FAR) due("6 FREE " + v, x.set(0, v), BAD);
    due("6 a refusal leaves FREE", x.count(2), 1);
    due("6 FREE 0", x.set(0, 0), 1);
    due("6 FREE 999", x.set(0, 999), 0);
    due("6 FREE 998", x.set(0, 998), 999);
    due("6 FREE again", x.set(0, 998), 998);
    due("6 WORK is another", x.set(1, 200), 200);
  }

  // "WORK (1 .. 999; 200 at first)", "WORK (1) becomes v: what it was. BAD."
  private static void work() {
    DownAsUp x = new DownAsUp();
    due("6 WORK 0", x.set(1, 0), BAD);
    due("6 WORK -1", x.set(1, -1), BAD);
    due("6 WORK 1000", x.set(1, 1000), BAD);
    for (int v : FAR) due("6 WORK " + v, x.set(1, v), BAD);
    due("6 WORK 1", x.set(1, 1), 200);
    due("6 WORK 999", x.set(1, 999), 1);
    due("6 WORK 998", x.set(1, 998), 999);
    due("6 WORK 2", x.set(1, 2), 998);
    due("6 FREE is another", x.count(2), 0);
  }

  private static void setWhat() {
    DownAsUp x = new DownAsUp();
    due("6 what -1", x.set(-1, 5), BAD);
    due("6 what 2", x.set(2, 5), BAD);
    for (int v : FAR) due("6 what " + v, x.set(v, 5), BAD);
    due("6 FREE stays", x.set(0, 0), 0);
    due("6 WORK stays", x.set(1, 200), 200);
  }

  // "THE WANTED TOWN becomes a set (at first the empty one): what it was. BAD."
  private static void wantedSets() {
    DownAsUp x = new DownAsUp();
    int was = 0;
    for (int parts = 0; parts <= 8; parts++) {
      int all = (1 << parts) - 1;
      due("7 all of " + parts, x.want(all), was);
      due("7 one beyond " + parts, x.want(all + 1), BAD);
      due("7 below 0", x.want(-1), BAD);
      for (int v : FAR) due("7 want " + v, x.want(v), BAD);
      due("7 a refusal leaves what was wanted", x.want(all), all);
      was = all;
      x.part(0, 1, 0, 0, 0);
    }
    due("7 nothing", x.want(0), 255);
    due("7 nothing again", x.want(0), 0);
    DownAsUp y = townOf("h1,h1/0");
    due("7 one that can't stand so may be wanted", y.want(2), 0);
    due("7 it was", y.want(0), 2);
    due("7 nothing stands by it", y.count(1), 0);
  }

  // "How many: 0 parts, 1 what stands (a set), 2 FREE, 3 PEOPLE, 4 YARDS that stand, 5 who is SHELTERED (a set). BAD."
  private static void countOfWhat() {
    DownAsUp x = townOf("h10*,c20*,h40");
    x.person(3);
    x.person(4);
    x.set(0, 77);
    int[] all = {3, 3, 77, 2, 30, 1};
    for (int what = 0; what < 6; what++) due("11 count(" + what + ")", x.count(what), all[what]);
    due("11 count(-1)", x.count(-1), BAD);
    due("11 count(6)", x.count(6), BAD);
    for (int v : FAR) due("11 count(" + v + ")", x.count(v), BAD);
  }

  private static void countAsMuchAsThereMayBe() {
    DownAsUp x = greatTown();
    x.stand(255);
    for (int i = 0; i < 4; i++) x.person(255);
    x.set(0, 999);
    int[] all = {8, 255, 999, 4, 792, 15};
    for (int what = 0; what < 6; what++) due("11 count(" + what + ") of all", x.count(what), all[what]);
    x.stand(0);
    int[] none = {8, 0, 999, 4, 0, 0};
    for (int what = 0; what < 6; what++) due("11 count(" + what + ") of none", x.count(what), none[what]);
    x.stand(128);
    due("11 YARDS of the last", x.count(4), 99);
    due("11 all sheltered by the last", x.count(5), 15);
  }

  // "who is SHELTERED (a set)": by one part that stands at least.
  private static void countSheltered() {
    DownAsUp x = townOf("h1,h1,h1,h1");
    x.person(1);
    x.person(3);
    x.person(8);
    x.person(12);
    int[] who = {0, 3, 2, 3, 8, 11, 10, 11, 12, 15};
    for (int set = 0; set < who.length; set++) {
      x.stand(set);
      due("11 who is sheltered by " + set, x.count(5), who[set]);
    }
  }
}
