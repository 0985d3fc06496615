import java.util.Random;

/** Many heaps and many sites, with hardly a yard to spare, so that old ways must be turned: against the oracle. */
public final class CarryTest {
  public static void main(String[] args) {
    Random random = new Random(7);
    int wrong = 0, enough = 0, runs = 3000;
    for (int run = 0; run < runs; run++) {
      DownAsUp x = new DownAsUp();
      Oracle o = new Oracle();
      int most = run % 3 == 0 ? 99 : run % 3 == 1 ? 9 : 2, far = run % 2 == 0 ? 99 : 12, lie = 0, lack = 0;
      int stood = run % 4 == 0 ? random.nextInt(256) : (15 << random.nextInt(5) | random.nextInt(256) & random.nextInt(256));
      for (int i = 0; i < 8; i++) {
        int kind = random.nextInt(6) == 0 ? random.nextInt(4) : 0, yards = 1 + random.nextInt(most), place = random.nextInt(far + 1);
        x.part(kind, yards, place, 0, 0);
        o.part(kind, yards, place, 0, 0);
        if (kind != 2 && (stood >> i & 1) == 1) lie += yards;
        if (kind != 2 && (stood >> i & 1) == 0) lack += yards;
      }
      int free = Math.max(0, Math.min(999, lack - lie + random.nextInt(4)));
      x.set(0, free);
      o.set(0, free);
      x.stand(stood);
      o.stand(stood);
      for (int k = 0; k < 3; k++) {
        int go = k == 0 ? stood & 255 : stood & random.nextInt(256), come = k < 2 ? ~stood & 255 : ~stood & random.nextInt(256);
        int got = x.carry(go, come), want = o.carry(go, come);
        if (want >= 0) enough++;
        if (got == want) continue;
        wrong++;
        System.out.println("run " + run + ": carry(" + go + "," + come + ") answered " + got + ", due is " + want);
      }
    }
    System.out.println(3 * runs + " carries, " + enough + " with enough, " + wrong + " not as due");
    if (wrong != 0 || enough < runs) System.exit(1);
  }
}
