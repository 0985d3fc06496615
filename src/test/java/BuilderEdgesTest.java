/** The edges of block 3 but for texts: builders, worth, images. */
public final class BuilderEdgesTest extends Kit {
  private static final int[] FAR = {MIN, MIN + 1, -65536, -256, -2, 256, 65536, 1 << 30, MAX - 1, MAX};

  public static void main(String[] args) {
    buildersAndWeeks();
    refusedBuilderDoesNothing();
    justSoManyWeeks();
    restsAtOnce();
    twoAheadOfOne();
    oneThatStandsAheadOfTheOthers();
    ordersOfLikeParts();
    goingIsTheOuterOne();
    byJustEnough();
    notWhatIsWantedOrDown();
    worthOfWhat();
    worthOfNobodyAndAll();
    worthOfEachOwnerAlone();
    worthByJustEnough();
    worthChangesNothing();
    noImage();
    imageOfNothing();
    imageOfAll();
    imageIsNoPartOfSheetsAndTape();
    imageStaysAsItWas();
    end();
  }

  // "BUILDERS 0 .. 3", "for n WEEKS (1 .. 60)", "BAD."
  private static void buildersAndWeeks() {
    DownAsUp x = townOf("h1*");
    due("17 builder -1", x.build(-1, 1), BAD);
    due("17 builder 4", x.build(4, 1), BAD);
    due("17 n 0", x.build(0, 0), BAD);
    due("17 n -1", x.build(0, -1), BAD);
    due("17 n 61", x.build(0, 61), BAD);
    for (int v : FAR) due("17 builder " + v, x.build(v, 1), BAD);
    for (int v : FAR) due("17 n " + v, x.build(0, v), BAD);
    for (int b = 0; b < 4; b++) {
      due("17 builder " + b + ", n 0", x.build(b, 0), BAD);
      due("17 builder " + b + ", n 61", x.build(b, 61), BAD);
    }
    due("17 nothing was done", x.count(1), 1);
    for (int b = 0; b < 4; b++) {
      x.stand(1);
      due("17 builder " + b + " for 1", x.build(b, 1), 1);
      x.stand(1);
      due("17 builder " + b + " for 60", x.build(b, 60), 1);
    }
  }

  private static void refusedBuilderDoesNothing() {
    DownAsUp x = townOf("h10*,h10");
    x.want(2);
    x.build(4, 1);
    x.build(0, 0);
    x.build(0, 61);
    due("17 a refusal leaves what stands", x.count(1), 1);
    due("17 a refusal leaves FREE", x.count(2), 0);
    due("17 a refusal leaves what can be had", x.can(-1), 1);
  }

  // "A BUILDER goes on for n WEEKS, or till he rests: how many WEEKS in which something was done."
  private static void justSoManyWeeks() {
    for (int b = 0; b < 4; b++)
      for (int n : new int[] {1, 2, 7, 8, 9, 59, 60}) {
        DownAsUp x = greatTown();
        x.set(0, 792);
        x.want(255);
        due("17 eight to come, for " + n, x.build(b, n), Math.min(8, n));
        due("17 FREE", x.count(2), 792 - 99 * Math.min(8, n));
        due("17 so many stand", Integer.bitCount(x.count(1)), Math.min(8, n));
        due("17 the rest", x.build(b, 60), 8 - Math.min(8, n));
        due("17 all stand", x.count(1), 255);
        x.want(0);
        due("17 eight to go, for " + n, x.build(b, n), Math.min(8, n));
        due("17 FREE again", x.count(2), 99 * Math.min(8, n));
      }
  }

  // "else he rests"
  private static void restsAtOnce() {
    DownAsUp x = townOf("h10*,h20,h5");
    for (int b = 0; b < 4; b++) {
      x.want(1);
      due("17 all is as wanted", x.build(b, 60), 0);
      x.want(3);
      due("17 not enough yards", x.build(b, 60), 0);
      x.set(0, 19);
      due("17 one yard less", x.build(b, 60), 0);
      x.set(0, 20);
      due("17 just enough", x.build(b, 60), 1);
      due("17 it stands", x.count(1), 3);
      x.stand(1);
      x.set(0, 0);
    }
    x.person(2);
    x.want(0);
    due("17 in the rain he rests", x.build(0, 60), 0);
    due("17 FREE stays", x.count(2), 0);
    DownAsUp none = new DownAsUp();
    for (int b = 0; b < 4; b++) due("17 no parts", none.build(b, 1), 0);
  }

  // "the first two by which, one going, one coming, the WEEK is LAWFUL; if there are none, ..."
  private static void twoAheadOfOne() {
    for (int b = 0; b < 4; b++) {
      DownAsUp x = townOf("h10*,h30*,h25,h40");
      x.set(0, 40);
      x.want(4);
      due("17 one week", x.build(b, 1), 1);
      int goes = b == 0 || b == 2 ? 1 : 2;
      due("17 one goes and one comes, though either might alone", x.count(1), 3 - goes + 4);
      due("17 FREE behind it", x.count(2), 40 + (goes == 1 ? 10 : 30) - 25);
      due("17 then the other goes alone", x.build(b, 60), 1);
      due("17 what stands", x.count(1), 4);
      due("17 FREE behind all", x.count(2), 40 + 40 - 25);
    }
    // The first two are not lawful, a later two are, and one alone would be: the two.
    DownAsUp later = townOf("h10*,h30*,h20");
    later.want(4);
    due("17 the second with it", later.build(2, 1), 1);
    due("17 what stands", later.count(1), 5);
    due("17 FREE", later.count(2), 10);
  }

  // "the first of those that stand by which alone it is; else the first of the others"
  private static void oneThatStandsAheadOfTheOthers() {
    DownAsUp x = townOf("h10*,h50");
    x.set(0, 50);
    x.set(1, 59);
    x.want(2);
    due("17 no two, by work", x.build(0, 1), 1);
    due("17 the one that stands went", x.count(1), 0);
    due("17 FREE", x.count(2), 60);
    due("17 then the other", x.build(0, 60), 1);
    due("17 it came", x.count(1), 2);
    due("17 FREE", x.count(2), 10);
    DownAsUp kept = townOf("h10*,h10");
    kept.person(3);
    kept.set(0, 10);
    kept.want(2);
    due("17 the one that stands can't go yet", kept.build(0, 1), 1);
    due("17 the other came", kept.count(1), 3);
    due("17 now it goes", kept.build(0, 60), 1);
    due("17 what stands", kept.count(1), 2);
    due("17 FREE", kept.count(2), 10);
    DownAsUp second = townOf("h10*,h20/0*");
    due("17 the second of those that stand, the first bears it", second.build(2, 1), 1);
    due("17 it went", second.count(1), 1);
    due("17 FREE", second.count(2), 20);
    DownAsUp others = townOf("h30,h20");
    others.want(3);
    others.set(0, 20);
    due("17 the second of the others, the first costs too much", others.build(2, 60), 1);
    due("17 it came", others.count(1), 2);
  }

  // "the least first (of like ones by numbers)", "just the other way round", "by numbers", "just the other way round"
  private static void ordersOfLikeParts() {
    int[][] order = {{0, 1, 2}, {2, 1, 0}, {0, 1, 2}, {2, 1, 0}};
    for (int b = 0; b < 4; b++) {
      DownAsUp x = townOf("h7*,h7*,h7*");
      int stands = 7;
      for (int week = 0; week < 3; week++) {
        due("17 like ones, builder " + b, x.build(b, 1), 1);
        stands -= 1 << order[b][week];
        due("17 like ones, builder " + b + ", week " + week, x.count(1), stands);
      }
    }
    int[][] unlike = {{3, 7, 0, 5, 1, 6, 2, 4}, {4, 2, 6, 1, 5, 0, 7, 3}, {0, 1, 2, 3, 4, 5, 6, 7}, {7, 6, 5, 4, 3, 2, 1, 0}};
    for (int b = 0; b < 4; b++) {
      DownAsUp x = townOf("h5*,r7*,h98*,b1*,h99*,c5*,h7*,h1*");
      x.set(0, 500);
      int stands = 255;
      for (int week = 0; week < 8; week++) {
        due("17 of eight, builder " + b, x.build(b, 1), 1);
        stands -= 1 << unlike[b][week];
        due("17 of eight, builder " + b + ", week " + week, x.count(1), stands);
      }
    }
    int[] first = {1, 0, 0, 1};
    for (int b = 0; b < 4; b++) {
      DownAsUp x = townOf("h20*,h10*");
      x.build(b, 1);
      due("17 of two, builder " + b, x.count(1), 3 - (1 << first[b]));
    }
    // YARDS are compared, not what a part gives: a barn of 10 gives 9, a ruin of 11 gives 5.
    DownAsUp yards = townOf("h10*,b10*,r11*");
    yards.build(0, 1);
    due("17 by YARDS, small", yards.count(1), 6);
    DownAsUp big = townOf("h10*,b10*,r11*");
    big.build(1, 1);
    due("17 by YARDS, big", big.count(1), 3);
  }

  // "with each of these at parts that are WANTED and do not stand"
  private static void goingIsTheOuterOne() {
    // Lawful are 0 with 3 (not with 2), and 1 with either: the first that goes is looked at with all that come.
    DownAsUp x = townOf("h10*,h40*,h30,h10");
    x.want(12);
    due("17 one week", x.build(2, 1), 1);
    due("17 0 with 3", x.count(1), 2 + 8);
    due("17 FREE", x.count(2), 0);
    DownAsUp y = townOf("h30,h10,h10*,h40*");
    y.want(3);
    y.build(3, 1);
    due("17 LAST: 3 with 1", y.count(1), 4 + 2);
    due("17 FREE", y.count(2), 30);
  }

  private static void byJustEnough() {
    DownAsUp x = townOf("h20*,h21");
    x.want(2);
    x.set(0, 1);
    x.set(1, 41);
    due("17 yards and work just enough", x.build(0, 60), 1);
    due("17 FREE", x.count(2), 0);
    DownAsUp y = townOf("h20*,h21");
    y.want(2);
    y.set(0, 1);
    y.set(1, 40);
    due("17 work for one less: two weeks", y.build(0, 60), 2);
    due("17 FREE", y.count(2), 0);
    DownAsUp z = townOf("h20*,h21");
    z.want(2);
    due("17 one yard less: it goes, nothing comes", z.build(0, 60), 1);
    due("17 nothing stands", z.count(1), 0);
    due("17 FREE", z.count(2), 20);
  }

  // Parts that stand and are wanted stay, parts that are neither do not come.
  private static void notWhatIsWantedOrDown() {
    for (int b = 0; b < 4; b++) {
      DownAsUp x = townOf("h1*,h2*,h3,h4");
      x.set(0, 99);
      x.want(1 + 4);
      due("17 one week", x.build(b, 60), 1);
      due("17 as wanted", x.count(1), 5);
      due("17 FREE", x.count(2), 99 + 2 - 3);
      due("17 want stays", x.want(5), 5);
    }
  }

  // "WORTH: above (0), below (1), in lowest terms. BAD."
  private static void worthOfWhat() {
    DownAsUp x = townOf("h1o3*");
    due("18 owner -1", x.worth(-1, 0), BAD);
    due("18 owner 4", x.worth(4, 0), BAD);
    due("18 part -1", x.worth(3, -1), BAD);
    due("18 part 2", x.worth(3, 2), BAD);
    for (int v : FAR) due("18 owner " + v, x.worth(v, 0), BAD);
    for (int v : FAR) due("18 part " + v, x.worth(0, v), BAD);
    due("18 owner 0, above", x.worth(0, 0), 0);
    due("18 owner 0, below", x.worth(0, 1), 1);
    due("18 owner 3, above", x.worth(3, 0), 1);
    due("18 owner 3, below", x.worth(3, 1), 1);
  }

  private static void shares(String what, DownAsUp x, int... all) {
    for (int owner = 0; owner < 4; owner++) {
      due("18 " + what + ", above, of " + owner, x.worth(owner, 0), all[2 * owner]);
      due("18 " + what + ", below, of " + owner, x.worth(owner, 1), all[2 * owner + 1]);
    }
  }

  // "as he comes, and could not just ahead of that": of no order, of all
  private static void worthOfNobodyAndAll() {
    DownAsUp x = townOf("h1o0*,h1o1*,h1o2*,h1o3*");
    shares("each is needed", x, 1, 4, 1, 4, 1, 4, 1, 4);
    x.want(15);
    shares("it is so now", x, 0, 1, 0, 1, 0, 1, 0, 1);
    x.want(7);
    shares("the last is needed", x, 0, 1, 0, 1, 0, 1, 1, 1);
    x.want(14);
    shares("the first is needed", x, 1, 1, 0, 1, 0, 1, 0, 1);
    x.want(6);
    shares("two are needed", x, 1, 2, 0, 1, 0, 1, 1, 2);
    x.want(2);
    shares("three are needed", x, 1, 3, 0, 1, 1, 3, 1, 3);
    x.person(1);
    shares("it can't be had", x, 0, 1, 0, 1, 0, 1, 0, 1);
    DownAsUp wet = townOf("h1o0*,h1o1");
    wet.person(2);
    wet.want(3);
    wet.set(0, 9);
    shares("in the rain", wet, 0, 1, 0, 1, 0, 1, 0, 1);
    wet.want(1);
    shares("in the rain, and so now", wet, 0, 1, 0, 1, 0, 1, 0, 1);
  }

  private static void worthOfEachOwnerAlone() {
    for (int o = 0; o < 4; o++) {
      DownAsUp x = townOf("h5o" + o + "*,h5o" + o + ",h5o" + (o + 1) % 4 + "*");
      x.want(6);
      for (int owner = 0; owner < 4; owner++) {
        due("18 his alone, above", x.worth(owner, 0), owner == o ? 1 : 0);
        due("18 his alone, below", x.worth(owner, 1), 1);
      }
    }
  }

  // FREE belongs to all: with enough of it nobody is needed but whose part comes.
  private static void worthByJustEnough() {
    DownAsUp x = townOf("h10o0,h10o1*");
    x.want(1);
    shares("both: one gives, one takes", x, 1, 2, 1, 2, 0, 1, 0, 1);
    x.set(0, 10);
    shares("both yet: the old one is not wanted", x, 1, 2, 1, 2, 0, 1, 0, 1);
    // The house of owner 1 may go between and come again, where FREE is one short.
    DownAsUp lend = townOf("h10o0*,h10o0,h1o1*");
    lend.person(3);
    lend.want(6);
    lend.set(0, 8);
    shares("two short: not even with one lent", lend, 0, 1, 0, 1, 0, 1, 0, 1);
    lend.set(0, 9);
    shares("one short: with one lent", lend, 1, 2, 1, 2, 0, 1, 0, 1);
    lend.set(0, 10);
    shares("enough: by himself", lend, 1, 1, 0, 1, 0, 1, 0, 1);
    lend.set(1, 9);
    shares("not by this work", lend, 0, 1, 0, 1, 0, 1, 0, 1);
  }

  private static void worthChangesNothing() {
    DownAsUp x = townOf("h10o0*,h10o1");
    x.want(2);
    due("14 one week", x.can(-1), 1);
    due("18 worth", x.worth(0, 1), 2);
    due("14 one week yet", x.can(-1), 1);
    due("14 by this set", x.can(0), 2);
    due("15 none more", x.more(), 0);
    due("18 what stands stays", x.count(1), 1);
    due("18 FREE stays", x.count(2), 0);
    x.worth(4, 0);
    due("18 a refusal leaves it", x.worth(0, 1), 2);
  }

  // "NONE: there is none."
  private static void noImage() {
    DownAsUp x = townOf("h10*");
    due("20 none", x.restore(), NONE);
    due("20 all stays", x.count(4), 10);
    due("19 image", x.image(), 1);
    due("20 there is one", x.restore(), 1);
    due("20 and yet", x.restore(), 1);
  }

  private static void imageOfNothing() {
    DownAsUp x = new DownAsUp();
    due("19 of nothing", x.image(), 1);
    x.part(0, 9, 9, 3, 0);
    x.stand(1);
    x.person(1);
    x.want(1);
    x.set(0, 9);
    x.set(1, 9);
    due("20 nothing", x.restore(), 1);
    for (int what = 0; what < 6; what++) due("20 count(" + what + ")", x.count(what), 0);
    due("20 no part is told", x.told(0, 0), BAD);
    due("20 want", x.want(0), 0);
    due("20 no part is wanted", x.want(1), BAD);
    due("20 WORK", x.set(1, 200), 200);
    due("20 parts come from 0 on", x.part(0, 1, 0, 0, 0), 0);
    due("20 people come from 0 on", x.person(1), 0);
  }

  private static void imageOfAll() {
    DownAsUp x = new DownAsUp();
    for (int i = 0; i < 8; i++) x.part(i % 4, 99 - i, 99 - i, 3 - i % 4, (1 << i) - 1);
    x.stand(255);
    for (int i = 0; i < 4; i++) x.person(128 >> i);
    x.want(127);
    x.set(0, 999);
    x.set(1, 999);
    due("19 of all", x.image(), 1);
    for (int turn = 0; turn < 3; turn++) {
      type(x, "h1");
      x.town();
      x.set(0, 1);
      x.set(1, 1);
      due("20 all", x.restore(), 1);
      int[] count = {8, 255, 999, 4, 764, 15};
      for (int what = 0; what < 6; what++) due("20 count(" + what + ")", x.count(what), count[what]);
      for (int i = 0; i < 8; i++) {
        int[] told = {i % 4, 99 - i, 99 - i, 3 - i % 4, (1 << i) - 1, 1};
        for (int what = 0; what < 6; what++) due("20 told(" + i + ", " + what + ")", x.told(i, what), told[what]);
      }
      due("20 want", x.want(127), 127);
      due("20 WORK", x.set(1, 999), 999);
      due("20 FULL of parts", x.part(0, 1, 0, 0, 0), FULL);
      due("20 FULL of people", x.person(1), FULL);
      x.stand(127);
      due("20 each with what shelters", x.count(5), 14);
    }
  }

  // "All but SHEETS, THE TAPE"
  private static void imageIsNoPartOfSheetsAndTape() {
    DownAsUp x = townOf("h1");
    x.sheet(0, 0, 3);
    x.item(0, 0, 1, 77);
    x.sheet(1, 1, 4);
    type(x, "h5");
    x.image();
    x.item(0, 0, 1, 78);
    x.drop(1);
    x.sheet(2, 2, 2);
    type(x, "*");
    due("20 restore", x.restore(), 1);
    due("20 a sheet that is gone stays gone", x.drop(1), NULL);
    due("20 a sheet that came stays", x.drop(2), 2);
    due("20 the tape goes on", x.type(' ', 1), 4);
    due("20 it is h5*", x.town(), 1);
    due("20 it is h5*", x.count(4), 5);
    dueItems("20 an item stays", x, 0, 0, 0, 78, 0);
  }

  // The image is what was then: nothing that comes later changes it, but for another image().
  private static void imageStaysAsItWas() {
    DownAsUp x = townOf("h10*,h20");
    x.image();
    x.person(1);
    x.want(2);
    x.part(0, 30, 0, 0, 0);
    x.set(0, 50);
    x.week(1, 2);
    x.restore();
    due("20 two parts", x.count(0), 2);
    due("20 nobody", x.count(3), 0);
    due("20 FREE", x.count(2), 0);
    due("20 what stands", x.count(1), 1);
    due("20 nothing is wanted", x.want(2), 0);
    due("20 it can be asked", x.can(-1), NONE);
    x.set(0, 10);
    due("19 another", x.image(), 1);
    x.set(0, 0);
    x.restore();
    due("20 the newer one", x.count(2), 10);
    due("20 with what was wanted", x.want(0), 2);
    due("20 as it was", x.restore(), 1);
    due("20 it can be had", x.can(-1), 1);
  }
}
