/** Objects for tests of calls that must change nothing: nearly all that they hold is other than at first. */
final class Scene {
    /** Instructions have ended, one of them wrong, an interrupt waits, a page is absent; no instruction has begun. */
    static MicrostoreWorks idle() {
        MicrostoreWorks works = House.make();
        works.patch(64, 5, 6);
        works.patch(79, 11, 0);
        works.setConstant(79, 250);
        works.setCatch(5, 64);
        works.reserve(4);
        works.setWait(3);
        works.setVector(9);
        works.setRegister(0, 200);
        works.setRegister(1, 100);
        House.load(works, 20, House.code(2, 0, 1), House.code(11, 0, 0), 40);
        works.start(20, 0, true);
        works.write(30, House.D, 5, House.TO_P, 0, 'e', 0, 0);
        works.run(2);
        works.interrupt();
        works.setPage(2, false);
        works.setPage(2, true);
        works.setPage(3, false);
        return works;
    }

    /** As idle, but with three micro-steps done: P has changed, and flags are told and not found. */
    static MicrostoreWorks begun() {
        MicrostoreWorks works = idle();
        works.write(2, House.P, 6, House.TO_P, 0, 'd', 0, House.FLAGS);
        works.step(3);
        return works;
    }
}
