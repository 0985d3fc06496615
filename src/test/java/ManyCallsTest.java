/** "An object is used for at most 512 calls after it has been made": up to the last of them every promise holds. */
public final class ManyCallsTest extends Kit {
  private static final int CALLS = 512;

  public static void main(String[] args) {
    asksTheSame();
    weeksThereAndBack();
    partsAndPeople();
    tapeFullAndEmpty();
    townsAnew();
    waysOfChangedTowns();
    imagesKeptAndRestored();
    sheetsAnew();
    itemsOverAndOver();
    refusedAllTheTime();
    end();
  }

  private static void asksTheSame() {
    DownAsUp x = townOf("h10@5o1*,h10@9o2");
    x.want(2);
    for (int call = 5; call < CALLS; call += 4) {
      due("12 call " + call, x.may(1, 2), 1);
      due("14 call " + call, x.can(-1), 1);
      due("16 call " + call, x.carry(1, 2), 40);
      due("18 call " + call, x.worth(1, 1), 2);
    }
  }

  private static void weeksThereAndBack() {
    DownAsUp x = townOf("h10*,h10");
    for (int call = 3; call <= CALLS; call++) due("13 call " + call, call % 2 == 1 ? x.week(1, 2) : x.week(2, 1), 0);
    DownAsUp barn = townOf("b2*");
    barn.set(0, 300);
    int free = 300;
    for (int call = 4; call <= CALLS; call++) {
      free += call % 2 == 0 ? 1 : -2;
      due("13 a barn that loses a yard each time, call " + call, call % 2 == 0 ? barn.week(1, 0) : barn.week(0, 1), free);
    }
  }

  private static void partsAndPeople() {
    DownAsUp x = new DownAsUp();
    for (int call = 1; call <= 8; call++) due("2 call " + call, x.part(0, 1, 0, 0, 0), call - 1);
    for (int call = 9; call <= 12; call++) due("5 call " + call, x.person(255), call - 9);
    for (int call = 13; call < CALLS; call += 2) {
      due("2 call " + call, x.part(0, 1, 0, 0, 0), FULL);
      due("5 call " + (call + 1), x.person(1), FULL);
    }
    due("11 call 512 or so", x.count(0), 8);
  }

  private static void tapeFullAndEmpty() {
    DownAsUp x = new DownAsUp();
    int calls = 0;
    while (calls < CALLS - 22) {
      for (int i = 1; i <= 20; i++) due("8 bytes", x.type(0x2020_2020_2020_2020L, 8), 8 * i);
      due("8 full", x.type(' ', 1), FULL);
      due("9 all blank", x.town(), -180);
      calls += 22;
    }
    due("8 empty", x.type('h', 1), 1);
  }

  private static void townsAnew() {
    DownAsUp x = new DownAsUp();
    for (int calls = 0; calls < CALLS - 4; calls += 4) {
      int yards = 1 + calls % 99;
      type(x, (calls % 8 == 0 ? "h" : "c") + yards + "*");
      due("9 town", x.town(), 1);
      due("11 YARDS that stand", x.count(4), yards);
      due("14 nothing is wanted, so it goes", x.can(-1), calls % 8 == 0 ? 1 : NONE);
    }
  }

  private static void waysOfChangedTowns() {
    DownAsUp x = greatTown();
    x.set(1, 99);
    for (int call = 10; call < CALLS - 2; call += 3) {
      int wanted = call * 7 % 256, parts = Integer.bitCount(wanted), free = call % 800;
      x.want(wanted);
      x.set(0, free);
      due("14 call " + call, x.can(-1), free >= 99 * parts ? parts : NONE);
    }
    x.want(255);
    due("15 the last", x.more(), 792 - 508);
  }

  private static void imagesKeptAndRestored() {
    DownAsUp x = townOf("h10*");
    for (int call = 3; call < CALLS - 3; call += 4) {
      x.set(0, call);
      due("19 call " + call, x.image(), 1);
      x.set(0, 0);
      due("20 call " + call, x.restore(), 1);
    }
    due("20 FREE of the last image", x.count(2), 507);
  }

  private static void sheetsAnew() {
    DownAsUp x = new DownAsUp();
    for (int call = 1; call < CALLS; call += 2) {
      int n = call % 25;
      due("23 call " + call, x.sheet(call % 4, call % 3, n), n);
      due("24 call " + (call + 1), x.drop(call % 4), n);
    }
  }

  private static void itemsOverAndOver() {
    DownAsUp x = new DownAsUp();
    x.sheet(0, 2, 24);
    for (int call = 2; call < 60; call++) due("25 call " + call, x.item(0, 2, call % 24, call), 1);
    for (int turn = 0; turn < 24; turn++) due("27 turn " + turn, x.copy(0, 1, 0, 0, 23), 23);
    // The last item was last told by call 47, and each turn brought it one place farther down.
    int[] want = new int[20];
    java.util.Arrays.fill(want, 47);
    dueItems("27 the last one everywhere", x, 0, 2, want);
  }

  private static void refusedAllTheTime() {
    DownAsUp x = townOf("h10*");
    x.set(0, 5);
    for (int call = 4; call < CALLS; call++) due("call " + call, refused(x, call % 13), BAD);
    due("11 call 512", x.count(2), 5);
  }

  private static int refused(DownAsUp x, int which) {
    switch (which) {
      case 0: return x.part(0, 0, 0, 0, 0);
      case 1: return x.told(1, 0);
      case 2: return x.stand(2);
      case 3: return x.person(2);
      case 4: return x.set(0, 1000);
      case 5: return x.want(2);
      case 6: return x.type('h', 9);
      case 7: return x.count(6);
      case 8: return x.week(2, 0);
      case 9: return x.can(256);
      case 10: return x.build(0, 61);
      case 11: return x.worth(4, 0);
      default: return x.sheet(4, 0, 0);
    }
  }
}
