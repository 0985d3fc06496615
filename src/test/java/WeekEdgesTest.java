/** The edges of block 2: what is lawful by just enough and not by one less, and what CAN, MORE and CARRY say there. */
public final class WeekEdgesTest extends Kit {
  private static final String KINDS = "hbcr";
  private static final int[] FAR = {MIN, MIN + 1, -65536, -256, -2, -1, 256, 65536, 1 << 30, MAX - 1, MAX};

  public static void main(String[] args) {
    weeksThatAreBad();
    badAheadOfLaw();
    whatEachKindTakes();
    whatEachKindGives();
    takenAndGivenInOneWeek();
    givenOfManyKinds();
    workJustEnough();
    asMuchAsThereMayBe();
    overAtMost999();
    nothingIsLeftOver();
    restsBehindTheWeek();
    shelteredByOneThatStays();
    fourToShelter();
    nothingIsDone();
    mayChangesNothing();
    canOfWhich();
    canIsSoNow();
    canByWorkAndFree();
    canWhatCannotBe();
    canFollowsEachChange();
    canWithAPartThatLends();
    canSpendsWhatIsThere();
    canChangesNothing();
    moreToTheYard();
    moreAtMost();
    carryBad();
    carryEnough();
    carryFarAndNear();
    carryCellars();
    carryOfNoYards();
    carryLawfulOrNot();
    carryAgain();
    end();
  }

  private interface Asks {
    int ask(int go, int come);
  }

  // "BAD: also one that goes and does not stand, one that comes and stands.", and as may() for week() and carry()
  private static void weeksThatAreBad() {
    DownAsUp x = townOf("h1*,h2,h3*,h4");
    bad("12 may", x::may);
    bad("13 week", x::week);
    bad("16 carry", x::carry);
    due("12 all that stands may go", x.may(5, 0), 1);
    due("12 all that does not stand may be named", x.may(0, 10), 0);
    due("16 all for all", x.carry(5, 10), NONE);
    due("13 a refusal leaves what stands", x.count(1), 5);
    due("13 a refusal leaves FREE", x.count(2), 0);
    DownAsUp all = greatTown();
    all.stand(255);
    all.set(1, 999);
    due("12 all of eight may go", all.may(255, 0), 1);
    due("12 and a ninth", all.may(511, 0), BAD);
    due("12 a ninth comes", all.may(0, 256), BAD);
    all.stand(0);
    due("12 all of eight may be named", all.may(0, 255), 0);
    due("12 and a ninth", all.may(0, 511), BAD);
  }

  private static void bad(String what, Asks x) {
    for (int v : FAR) {
      due(what + "(" + v + ", 0)", x.ask(v, 0), BAD);
      due(what + "(0, " + v + ")", x.ask(0, v), BAD);
      due(what + "(" + v + ", " + v + ")", x.ask(v, v), BAD);
    }
    due(what + ": one goes that does not stand", x.ask(2, 0), BAD);
    due(what + ": the last goes, it does not stand", x.ask(8, 0), BAD);
    due(what + ": one that stands and one that does not go", x.ask(3, 0), BAD);
    due(what + ": one comes that stands", x.ask(0, 1), BAD);
    due(what + ": one that does not stand and one that does come", x.ask(0, 6), BAD);
    due(what + ": a fifth part goes", x.ask(16, 0), BAD);
    due(what + ": a fifth part comes", x.ask(0, 16), BAD);
    due(what + ": the same goes and comes, it stands", x.ask(1, 1), BAD);
    due(what + ": the same goes and comes, it does not stand", x.ask(2, 2), BAD);
    due(what + ": what goes is good, what comes stands", x.ask(1, 4), BAD);
    due(what + ": what comes is good, what goes does not stand", x.ask(8, 2), BAD);
  }

  // BAD, then NOT.
  private static void badAheadOfLaw() {
    DownAsUp x = townOf("h1*,h99");
    x.person(1);
    due("13 not lawful", x.week(1, 2), NOT);
    due("13 not lawful, and BAD", x.week(1, 6), BAD);
    due("13 not lawful, and BAD", x.week(3, 0), BAD);
    due("12 not lawful", x.may(1, 2), 0);
    due("12 not lawful, and BAD", x.may(1, 6), BAD);
  }

  // "HOUSE (takes its YARDS as it comes)", below it BARN and RUIN, "CELLAR (takes them as it goes)"
  private static void whatEachKindTakes() {
    for (int kind = 0; kind < 4; kind++)
      for (int yards : new int[] {1, 2, 3, 50, 98, 99}) {
        DownAsUp x = townOf("" + KINDS.charAt(kind) + yards);
        boolean cellar = kind == 2;
        if (cellar) x.stand(1);
        int go = cellar ? 1 : 0, come = 1 - go;
        String what = KINDS.charAt(kind) + "" + yards;
        x.set(0, yards - 1);
        due("12 " + what + " with one yard less", x.may(go, come), 0);
        due("13 " + what + " with one yard less", x.week(go, come), NOT);
        due("13 FREE stays", x.count(2), yards - 1);
        due("13 what stands stays", x.count(1), cellar ? 1 : 0);
        x.set(0, yards);
        due("12 " + what + " with just enough", x.may(go, come), 1);
        due("13 " + what + " with just enough", x.week(go, come), 0);
        due("13 what stands behind it", x.count(1), cellar ? 0 : 1);
      }
  }

  // "gives them as it goes", "gives one yard less", "gives its YARDS as it comes", "gives half of its YARDS, cut"
  private static void whatEachKindGives() {
    for (int yards : new int[] {1, 2, 3, 4, 5, 50, 97, 98, 99}) {
      int[] given = {yards, yards - 1, yards, yards / 2};
      for (int kind = 0; kind < 4; kind++) {
        DownAsUp x = townOf("" + KINDS.charAt(kind) + yards + (kind == 2 ? "" : "*"));
        int come = kind == 2 ? 1 : 0, go = 1 - come;
        due("12 it gives", x.may(go, come), 1);
        due("13 " + KINDS.charAt(kind) + yards + " gives", x.week(go, come), given[kind]);
      }
    }
  }

  // "all that is taken is no more than FREE and all that is given"
  private static void takenAndGivenInOneWeek() {
    String[] towns = {"h50*,h50", "b51*,h50", "c50,h50", "r98*,h49", "h50*,c50*", "h25*,h25*,h50", "h49*,h50", "c49,h50", "b50*,h50",
      "r99*,h50"};
    int[] go = {1, 1, 0, 1, 3, 3, 1, 0, 1, 1};
    int[] come = {2, 2, 3, 2, 0, 4, 2, 3, 2, 2};
    int[] lacks = {0, 0, 0, 0, 0, 0, 1, 1, 1, 1};
    for (int i = 0; i < towns.length; i++) {
      DownAsUp x = townOf(towns[i]);
      x.set(0, lacks[i]);
      due("12 just enough in " + towns[i], x.may(go[i], come[i]), 1);
      if (lacks[i] > 0) {
        x.set(0, lacks[i] - 1);
        due("12 one yard less in " + towns[i], x.may(go[i], come[i]), 0);
        x.set(0, lacks[i]);
      }
      due("13 nothing is over in " + towns[i], x.week(go[i], come[i]), 0);
    }
  }

  private static void givenOfManyKinds() {
    // As they go: 10, 19, 15 (of 31, cut) and a cellar that takes 7; as they come: a cellar that gives 9, and 46 taken.
    DownAsUp x = townOf("h10*,b20*,r31*,c7*,c9,h20,b25,r1");
    due("12 46 of 46", x.may(15, 240), 1);
    due("13 46 of 46", x.week(15, 240), 0);
    due("13 what stands", x.count(1), 240);
    DownAsUp y = townOf("h10*,b20*,r31*,c7*,c9,h20,b25,r2");
    due("12 47 of 46", y.may(15, 240), 0);
    y.set(0, 1);
    due("12 47 of 46 and one that is free", y.may(15, 240), 1);
  }

  // "all YARDS of what goes and comes are no more than WORK"
  private static void workJustEnough() {
    for (int kind = 0; kind < 4; kind++) {
      DownAsUp x = townOf(KINDS.charAt(kind) + "30*," + KINDS.charAt(kind) + "29");
      x.set(0, 999);
      int[][] weeks = {{1, 0, 30}, {0, 2, 29}, {1, 2, 59}};
      for (int[] w : weeks) {
        x.set(1, w[2]);
        due("12 work just enough for " + w[2], x.may(w[0], w[1]), 1);
        x.set(1, w[2] - 1);
        due("12 one yard too little for " + w[2], x.may(w[0], w[1]), 0);
        due("13 one yard too little for " + w[2], x.week(w[0], w[1]), NOT);
      }
    }
    DownAsUp one = townOf("h1*,h1");
    one.set(1, 1);
    due("12 the least work, one yard", one.may(1, 0), 1);
    due("12 the least work, two yards", one.may(1, 2), 0);
    due("12 the least work, nothing", one.may(0, 0), 1);
    DownAsUp at200 = townOf("h99*,h99*,h2*,h3*");
    due("12 200 of the first 200", at200.may(7, 0), 1);
    due("12 201 of the first 200", at200.may(11, 0), 0);
  }

  private static void asMuchAsThereMayBe() {
    DownAsUp x = greatTown();
    x.set(0, 792);
    x.set(1, 792);
    due("12 all come", x.may(0, 255), 1);
    x.set(0, 791);
    due("12 all come, one yard less", x.may(0, 255), 0);
    x.set(0, 792);
    x.set(1, 791);
    due("12 all come, work for one less", x.may(0, 255), 0);
    x.set(1, 792);
    due("13 all come", x.week(0, 255), 0);
    due("13 all stand", x.count(1), 255);
    x.set(1, 791);
    due("12 all go, work for one less", x.may(255, 0), 0);
    x.set(1, 792);
    due("13 all go", x.week(255, 0), 792);
    x.stand(255);
    due("13 all go, and there were as many", x.week(255, 0), 999);
  }

  // "FREE becomes what is over (999 at most)"
  private static void overAtMost999() {
    int[][] rows = {{899, 998}, {900, 999}, {901, 999}, {998, 999}, {999, 999}};
    for (int[] row : rows) {
      DownAsUp x = townOf("h99*,c99*,c99");
      x.set(0, row[0]);
      due("13 " + row[0] + " and 99 of a house", x.week(1, 0), row[1]);
      due("13 FREE", x.count(2), row[1]);
      due("13 what was over is lost", x.week(2, 0), row[1] - 99);
      x.set(0, row[0]);
      due("13 " + row[0] + " and 99 of a cellar", x.week(0, 4), row[1]);
    }
    DownAsUp y = townOf("h99*,h98");
    y.set(0, 998);
    due("13 998 and 99 less 98", y.week(1, 2), 999);
    y.set(0, 999);
    due("13 999 and 98 less 99", y.week(2, 1), 998);
    DownAsUp built = townOf("h99*");
    built.set(0, 950);
    due("17 a builder's week", built.build(0, 60), 1);
    due("17 999 at most", built.count(2), 999);
    DownAsUp book = townOf("h99*,c99*");
    book.set(0, 999);
    book.sheet(0, 0, 6);
    book.item(0, 0, 0, 1);
    book.item(0, 0, 2, 2);
    due("21 a book beyond 999", book.judged(0, 0, 0, 3), NONE);
  }

  private static void nothingIsLeftOver() {
    DownAsUp x = townOf("h5,b5,r5,c5*");
    x.set(0, 5);
    due("13 five for a house", x.week(0, 1), 0);
    due("13 nothing for a barn", x.week(0, 2), NOT);
    due("13 nothing for a ruin", x.week(0, 4), NOT);
    due("13 nothing for a cellar that goes", x.week(8, 0), NOT);
    due("13 house for ruin", x.week(1, 4), 0);
    due("13 two of a ruin", x.week(4, 0), 2);
  }

  // "each part that stands behind it has all it RESTS on"
  private static void restsBehindTheWeek() {
    DownAsUp x = townOf("h5*,h5*,h5/01*,h5,h5/3,h5/03");
    x.set(0, 99);
    due("12 one of two that bear", x.may(1, 0), 0);
    due("12 the other of two that bear", x.may(2, 0), 0);
    due("12 with what rests on it", x.may(5, 0), 1);
    due("12 with what rests on it", x.may(6, 0), 1);
    due("12 all three", x.may(7, 0), 1);
    due("12 what rests alone goes", x.may(4, 0), 1);
    due("12 comes without what bears it", x.may(0, 16), 0);
    due("12 comes with what bears it", x.may(0, 24), 1);
    due("12 comes on one that stands and one that comes", x.may(0, 40), 1);
    due("12 comes on one that stands alone", x.may(0, 32), 0);
    due("12 comes as one of those that bear it goes", x.may(5, 40), 0);
    due("12 comes as another goes", x.may(6, 40), 1);
    due("13 not", x.week(1, 0), NOT);
    due("13 all stays", x.count(1), 7);
  }

  // "each of PEOPLE is SHELTERED by a part that stands ahead of it and behind it"
  private static void shelteredByOneThatStays() {
    DownAsUp x = townOf("h5*,h5*,h5");
    x.person(7);
    due("12 one of two goes", x.may(1, 0), 1);
    due("12 both go", x.may(3, 0), 0);
    due("12 both go and another comes", x.may(3, 4), 0);
    due("12 one of two goes and another comes", x.may(1, 4), 1);
    due("13 not", x.week(3, 4), NOT);
    due("13 one goes, another comes", x.week(1, 4), 0);
    due("13 now the other goes", x.week(2, 0), 5);
    due("12 the last does not", x.may(4, 0), 0);
    due("12 nor for another", x.may(4, 1), 0);
    DownAsUp rain = townOf("h5,h5*");
    rain.person(1);
    rain.set(0, 99);
    due("12 in the rain ahead of it, sheltered behind it", rain.may(0, 1), 0);
    due("13 in the rain ahead of it, sheltered behind it", rain.week(0, 1), NOT);
    due("12 in the rain both", rain.may(2, 0), 0);
  }

  private static void fourToShelter() {
    for (int i = 0; i < 4; i++) {
      DownAsUp x = townOf("h5*,h5*,h5*,h5*,h5*");
      for (int who = 0; who < 4; who++) x.person(1 << who);
      due("12 all four are sheltered", x.may(16, 0), 1);
      due("12 number " + i + " is not", x.may(1 << i, 0), 0);
      DownAsUp y = townOf("h5*,h5*");
      for (int who = 0; who < 4; who++) y.person(who == i ? 1 : 3);
      due("12 number " + i + " has one part", y.may(1, 0), 0);
      due("12 it stays", y.may(2, 0), 1);
    }
  }

  // Nothing goes, nothing comes: a week too.
  private static void nothingIsDone() {
    DownAsUp x = townOf("h5*,h5");
    x.set(0, 7);
    x.set(1, 1);
    due("12 nothing is done", x.may(0, 0), 1);
    due("13 nothing is done", x.week(0, 0), 7);
    due("13 what stands", x.count(1), 1);
    x.person(1);
    due("13 nothing is done, in the dry", x.week(0, 0), 7);
    x.person(2);
    due("12 nothing is done, in the rain", x.may(0, 0), 0);
    due("13 nothing is done, in the rain", x.week(0, 0), NOT);
  }

  private static void mayChangesNothing() {
    DownAsUp x = townOf("h5*,h5");
    due("12 lawful", x.may(1, 2), 1);
    due("12 what stands stays", x.count(1), 1);
    due("12 FREE stays", x.count(2), 0);
    due("16 carried", x.carry(1, 2), 0);
    due("16 what stands stays", x.count(1), 1);
    due("16 FREE stays", x.count(2), 0);
    due("12 and again", x.may(1, 2), 1);
  }

  // "how many WEEKS (-1), the set behind the i-th one (0 .. 255). BAD; NONE: it can't be had, there is no i-th."
  private static void canOfWhich() {
    DownAsUp x = townOf("h10*,h10*,h10,h10");
    x.set(1, 20);
    x.want(12);
    due("14 how many", x.can(-1), 2);
    due("14 the first", x.can(0), 0);
    due("14 the last", x.can(1), 12);
    due("14 one behind the last", x.can(2), NONE);
    for (int i : new int[] {3, 24, 60, 127, 128, 254, 255}) due("14 can(" + i + ")", x.can(i), NONE);
    int[] not = {-2, -3, -256, -257, 256, 257, 512, 65535, 65536, MIN, MIN + 1, MAX - 1, MAX};
    for (int i : not) due("14 can(" + i + ")", x.can(i), BAD);
    x.set(1, 9);
    due("14 it can't be had", x.can(-1), NONE);
    for (int i : new int[] {0, 1, 255}) due("14 it can't be had, can(" + i + ")", x.can(i), NONE);
    for (int i : not) due("14 BAD ahead of NONE, can(" + i + ")", x.can(i), BAD);
    x.want(3);
    for (int i : not) due("14 BAD where it is so now, can(" + i + ")", x.can(i), BAD);
    DownAsUp eight = greatTown();
    eight.want(255);
    eight.set(0, 792);
    eight.set(1, 99);
    due("14 eight weeks", eight.can(-1), 8);
    for (int i = 0; i < 8; i++) due("14 the least set each time", eight.can(i), (2 << i) - 1);
    due("14 no ninth", eight.can(8), NONE);
  }

  // "0: it is so now"
  private static void canIsSoNow() {
    DownAsUp x = greatTown();
    due("14 nothing wanted, nothing stands", x.can(-1), 0);
    due("14 by no week", x.can(0), NONE);
    x.stand(255);
    x.want(255);
    due("14 all wanted, all stand", x.can(-1), 0);
    due("14 by no week", x.can(0), NONE);
    due("15 no yard more", x.more(), 0);
    x.want(127);
    due("14 all but one wanted", x.can(-1), 1);
    due("14 by this week", x.can(0), 127);
    DownAsUp wet = townOf("h5*,h5");
    wet.person(2);
    wet.want(1);
    due("14 so now, in the rain", wet.can(-1), 0);
    due("15 so now, in the rain", wet.more(), 0);
    wet.want(3);
    due("14 not so now, in the rain", wet.can(-1), NONE);
    due("15 not by any yards, in the rain", wet.more(), NONE);
  }

  // "by LAWFUL WEEKS, one behind the other": what is just enough for one week, or for one more.
  private static void canByWorkAndFree() {
    DownAsUp x = townOf("h10*,h30");
    x.want(2);
    x.set(0, 20);
    x.set(1, 40);
    due("14 work and yards just enough", x.can(-1), 1);
    x.set(1, 39);
    due("14 work for one less: two weeks", x.can(-1), 2);
    due("14 by this set", x.can(0), 0);
    x.set(1, 30);
    due("14 work just enough for the one that comes", x.can(-1), 2);
    x.set(1, 29);
    due("14 work for one less: never", x.can(-1), NONE);
    due("15 nor by more yards", x.more(), NONE);
    x.set(1, 40);
    x.set(0, 19);
    due("14 one yard less: never", x.can(-1), NONE);
    due("15 one more", x.more(), 1);
    x.set(0, 999);
    due("14 as much as there may be", x.can(-1), 1);
    x.set(1, 1);
    due("14 the least work", x.can(-1), NONE);
    x.want(1);
    due("14 the least work, nothing to do", x.can(-1), 0);
    DownAsUp one = townOf("h1*");
    one.set(1, 1);
    due("14 the least work, one yard", one.can(-1), 1);
    due("14 nothing stands", one.can(0), 0);
  }

  private static void canWhatCannotBe() {
    DownAsUp x = townOf("h1*,h1/0*,h1");
    x.set(0, 999);
    x.want(2);
    due("14 it can't stand", x.can(-1), NONE);
    due("15 not by 999", x.more(), NONE);
    x.want(6);
    due("14 it can't stand", x.can(-1), NONE);
    x.want(5);
    due("14 it can stand", x.can(-1), 1);
    x.person(2);
    due("14 he would be in the rain", x.can(-1), NONE);
    x.want(7);
    due("14 he is not", x.can(-1), 1);
  }

  // What was found before holds no longer: "from now on".
  private static void canFollowsEachChange() {
    DownAsUp x = townOf("h10*,h10");
    x.want(2);
    due("14 one week", x.can(-1), 1);
    due("18 his", x.worth(0, 0), 1);
    x.set(1, 19);
    due("14 behind set(1): two weeks", x.can(-1), 2);
    x.set(1, 9);
    due("14 behind set(1): never", x.can(-1), NONE);
    due("15 behind set(1)", x.more(), NONE);
    due("18 behind set(1)", x.worth(0, 0), 0);
    x.set(1, 20);
    due("14 behind set(1): one week", x.can(-1), 1);
    x.person(3);
    due("14 behind person(): never", x.can(-1), NONE);
    due("15 behind person()", x.more(), 10);
    due("18 behind person()", x.worth(0, 0), 0);
    x.set(0, 10);
    due("14 behind set(0): two weeks", x.can(-1), 2);
    due("14 behind set(0): both stand between", x.can(0), 3);
    x.image();
    x.week(0, 2);
    due("14 behind week(): one week", x.can(-1), 1);
    x.build(0, 1);
    due("14 behind build(): so now", x.can(-1), 0);
    x.restore();
    due("14 behind restore(): two weeks", x.can(-1), 2);
    type(x, "0");
    x.people();
    due("14 behind people(): never", x.can(-1), NONE);
    type(x, "1");
    x.people();
    due("14 behind people(), in the rain: never", x.can(-1), NONE);
    x.stand(2);
    due("14 behind stand(): so now", x.can(-1), 0);
    x.want(3);
    due("14 behind want(): one week", x.can(-1), 1);
    x.part(2, 1, 0, 1, 0);
    x.want(7);
    due("14 behind part(): one week", x.can(-1), 1);
    due("18 behind part()", x.worth(1, 1), 2);
    type(x, "h10,h10o3");
    x.town();
    due("14 behind town(): so now", x.can(-1), 0);
    x.want(2);
    due("14 one of them: one week", x.can(-1), 1);
    due("18 of another owner", x.worth(3, 0), 1);
  }

  // A part that came behind can() may come and go between, though it is not wanted.
  private static void canWithAPartThatLends() {
    DownAsUp x = townOf("h10*,h10");
    x.person(3);
    x.want(2);
    due("14 the old one must stay, nothing is free", x.can(-1), NONE);
    due("15 ten are missing", x.more(), 10);
    due("18 nobody turns it", x.worth(0, 0), 0);
    x.part(2, 9, 0, 1, 0);
    due("14 a cellar of nine does not lend enough", x.can(-1), NONE);
    due("15 one is missing", x.more(), 1);
    x.part(2, 10, 0, 1, 0);
    due("14 a cellar of ten does", x.can(-1), 2);
    due("14 it comes with the new one", x.can(0), 1 + 2 + 8);
    due("14 it goes with the old one", x.can(1), 2);
    due("15 none is missing", x.more(), 0);
    due("18 by its owner", x.worth(1, 1), 2);
  }

  // The first of the ways is a lawful one: a lesser set that FREE is not enough for is left out.
  private static void canSpendsWhatIsThere() {
    DownAsUp x = townOf("h30,h20,c30");
    x.set(0, 30);
    x.set(1, 30);
    x.want(7);
    due("14 one part each week", x.can(-1), 3);
    due("14 the house of 30, for all that is free", x.can(0), 1);
    due("14 not the house of 20, but the cellar", x.can(1), 1 + 4);
    due("14 all", x.can(2), 7);
    x.set(0, 50);
    due("14 now the house of 20", x.can(1), 3);
    x.set(0, 49);
    due("14 with one less the cellar again", x.can(1), 5);
    x.set(0, 29);
    due("14 the house of 20 first", x.can(0), 2);
    due("14 then the cellar", x.can(1), 2 + 4);
    x.set(0, 19);
    due("14 nineteen and thirty for fifty", x.can(-1), NONE);
    due("15 one is missing", x.more(), 1);
    x.set(0, 20);
    due("14 twenty: all of it for the house of 20", x.can(0), 2);
    due("15 enough", x.more(), 0);
  }

  private static void canChangesNothing() {
    DownAsUp x = townOf("h10*,h20,c10");
    x.want(2);
    due("14 never: the cellar must go again", x.can(-1), NONE);
    due("15 ten", x.more(), 10);
    x.want(6);
    due("14 with the cellar", x.can(-1), 1);
    due("14 by this set", x.can(0), 6);
    due("14 what stands stays", x.count(1), 1);
    due("14 FREE stays", x.count(2), 0);
    due("14 want stays", x.want(6), 6);
    due("15 none more", x.more(), 0);
    due("15 FREE stays", x.count(2), 0);
  }

  // "the least number of yards by which FREE must be more so that it CAN"
  private static void moreToTheYard() {
    DownAsUp x = townOf("h10*,h25,h30");
    x.person(1);
    x.want(7);
    for (int free = 0; free <= 60; free++) {
      x.set(0, free);
      due("15 more than " + free, x.more(), free >= 55 ? 0 : 55 - free);
      due("14 with " + free, x.can(-1), free >= 55 ? 1 : NONE);
    }
    x.set(1, 30);
    x.set(0, 54);
    due("15 by two weeks", x.more(), 1);
    x.set(0, 55);
    due("14 by two weeks", x.can(-1), 2);
    DownAsUp barn = townOf("b10*,h10");
    barn.want(2);
    due("15 the yard that a barn does not give", barn.more(), 1);
    DownAsUp ruin = townOf("r11*,h10");
    ruin.want(2);
    due("15 the yards that a ruin does not give", ruin.more(), 5);
    DownAsUp cellar = townOf("c10*,h10");
    due("15 the yards that a cellar takes", cellar.more(), 10);
    cellar.stand(0);
    cellar.want(3);
    due("15 a cellar gives them all", cellar.more(), 0);
  }

  // "(999 at most, so)", "NONE: not by 999"
  private static void moreAtMost() {
    DownAsUp x = greatTown();
    x.want(255);
    x.set(1, 99);
    due("15 all of eight", x.more(), 792);
    x.set(0, 1);
    due("15 all of eight but one yard", x.more(), 791);
    x.set(0, 791);
    due("15 the last yard", x.more(), 1);
    x.set(0, 792);
    due("15 enough", x.more(), 0);
    x.set(0, 999);
    due("15 more than enough", x.more(), 0);
    x.set(1, 98);
    due("15 not with 999 free", x.more(), NONE);
    x.set(0, 0);
    due("15 not by 999", x.more(), NONE);
  }

  private static void carryBad() {
    DownAsUp x = townOf("h5*,h5");
    due("16 one that goes and does not stand", x.carry(2, 0), BAD);
    due("16 one that comes and stands", x.carry(0, 1), BAD);
    due("16 BAD ahead of NONE", x.carry(0, 6), BAD);
    due("16 nothing", x.carry(0, 0), 0);
  }

  // "none, if it is not enough"
  private static void carryEnough() {
    DownAsUp x = townOf("h10@10*,h20@20");
    due("16 ten of twenty", x.carry(1, 2), NONE);
    x.set(0, 9);
    due("16 nineteen of twenty", x.carry(1, 2), NONE);
    x.set(0, 10);
    due("16 twenty of twenty", x.carry(1, 2), 100 + 200);
    x.set(0, 11);
    due("16 one is left, of those that lie farther", x.carry(1, 2), 100 + 200);
    x.set(0, 19);
    due("16 nothing goes, nineteen are free", x.carry(0, 2), NONE);
    x.set(0, 20);
    due("16 nothing goes, twenty are free", x.carry(0, 2), 400);
    DownAsUp barn = townOf("b10@10*,h10@20,h9@20");
    due("16 a barn gives nine: not ten", barn.carry(1, 2), NONE);
    due("16 a barn gives nine: nine", barn.carry(1, 4), 90);
    DownAsUp ruin = townOf("r11@10*,h6@20,h5@20");
    due("16 a ruin gives five: not six", ruin.carry(1, 2), NONE);
    due("16 a ruin gives five: five", ruin.carry(1, 4), 50);
    DownAsUp comes = townOf("b10@10,r11@10");
    comes.set(0, 20);
    due("16 as they come they need all: not 20", comes.carry(0, 3), NONE);
    comes.set(0, 21);
    due("16 as they come they need all: 21", comes.carry(0, 3), 210);
  }

  // "yards times how far PLACES are apart", "FREE, which lies at PLACE 0"
  private static void carryFarAndNear() {
    DownAsUp x = greatTown();
    x.set(0, 792);
    due("16 as much as there may be, as far", x.carry(0, 255), 792 * 99);
    x.set(0, 791);
    due("16 one less", x.carry(0, 255), NONE);
    x.set(0, 999);
    due("16 more than enough", x.carry(0, 255), 792 * 99);
    x.stand(15);
    due("16 in place", x.carry(15, 240), 0);
    due("16 three for four, one from FREE", x.carry(7, 240), 99 * 99);
    DownAsUp ends = townOf("h99@99*,h99@0,h99@0*,h99@99");
    due("16 from end to end", ends.carry(1, 2), 99 * 99);
    due("16 from the other end", ends.carry(4, 8), 99 * 99);
    due("16 both stay where they are", ends.carry(5, 10), 0);
    ends.set(0, 99);
    due("16 FREE is there", ends.carry(1, 2), 0);
    DownAsUp mid = townOf("h1@49*,h1@51*,h1@50");
    due("16 one yard by one", mid.carry(3, 4), 1);
    due("16 from below", mid.carry(1, 4), 1);
    due("16 from above", mid.carry(2, 4), 1);
  }

  // "(CELLARS are nothing to it)"
  private static void carryCellars() {
    DownAsUp x = townOf("c99@50,h1@50,c99@99*,h5@7*");
    due("16 a cellar that comes needs nothing", x.carry(0, 1), 0);
    due("16 a cellar that comes gives nothing", x.carry(0, 3), NONE);
    due("16 a cellar that goes gives nothing", x.carry(4, 2), NONE);
    due("16 a cellar that goes needs nothing", x.carry(4, 0), 0);
    x.set(0, 1);
    due("16 with one yard free", x.carry(4, 3), 50);
    due("16 of the house alone", x.carry(12, 3), 43);
  }

  // Parts of one yard that give nothing; more heaps and sites than one another.
  private static void carryOfNoYards() {
    DownAsUp x = townOf("b1@5*,r1@5*,h1@5,h1@6*");
    due("16 they give nothing", x.carry(3, 4), NONE);
    due("16 the house does", x.carry(11, 4), 1);
    due("16 nothing is needed", x.carry(11, 0), 0);
    DownAsUp many = townOf("h1@1*,h1@3*,h1@5*,h1@7*,h1@9*,h1@11*,h1@13*,h7@7");
    due("16 seven to one", many.carry(127, 128), 6 + 4 + 2 + 0 + 2 + 4 + 6);
    DownAsUp one = townOf("h7@7*,h1@1,h1@3,h1@5,h1@7,h1@9,h1@11,h1@13");
    due("16 one to seven", one.carry(1, 254), 6 + 4 + 2 + 0 + 2 + 4 + 6);
  }

  // "CARRY of a WEEK (LAWFUL or not)"
  private static void carryLawfulOrNot() {
    DownAsUp x = townOf("h10@10*,h10@20,h10@30/0*");
    x.person(1);
    x.set(1, 1);
    due("12 not lawful by work, by what rests, by the rain", x.may(1, 2), 0);
    due("16 carried all the same", x.carry(1, 2), 100);
    DownAsUp cellar = townOf("c50@10*,h10@20,h10@20*");
    due("12 not lawful by yards", cellar.may(5, 2), 0);
    due("16 carried all the same", cellar.carry(5, 2), 0);
    DownAsUp gives = townOf("c50@10,h10@20");
    due("12 lawful by the cellar", gives.may(0, 3), 1);
    due("16 not enough all the same", gives.carry(0, 3), NONE);
  }

  // One call leaves nothing behind for the next: first a large one, then a small one, and both again.
  private static void carryAgain() {
    DownAsUp x = townOf("h30@10*,h30@40*,h20@20,h20@30,h10@90*,h30@0");
    x.set(0, 5);
    for (int i = 0; i < 3; i++) {
      due("16 the large one", x.carry(19, 44), 5 * 0 + 25 * 10 + 5 * 10 + 15 * 20 + 15 * 10 + 5 * 60);
      due("16 the small one", x.carry(1, 4), 200);
      due("16 not enough", x.carry(0, 4), NONE);
      due("16 nothing", x.carry(0, 0), 0);
    }
  }
}
